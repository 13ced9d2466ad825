/-! EQUATIONS OF THE METHODS (written by wip/gen/dgen.py) -/
theorem D_X10_text (d : Nat) (h : MH) (a0 : Nat) : mE mtab (d + 1) 95 [.ref a0] h = ck (kd h a0 = 11) (ck (kd h (gR h a0 0) = 1) ((if (gI h (gR h a0 0) 4) < 4 then ck (kd h a0 = 11) (ck (kd h (gR h a0 4) = 5) (cR (mE mtab d 93 [.ref (gR h a0 4)] h) (fun x2 h1 => ck (kd h1 a0 = 11) (ck (kd h1 (gR h1 a0 3) = 8) (lt_ (sI h1 (gR h1 a0 3) 1 0) fun h3 => (if x2 = 0 then some (.int (-1), h3) else ck (kd h3 a0 = 11) (ck (kd h3 (gR h3 a0 0) = 1) (cI (mE mtab d 94 [.ref (gR h3 a0 0), .ref x2] h3) (fun x5 h4 => some (.int x5, h4)))))))))) else some (.int (-1), h)))) := by
  refine mE_eq (q := (yX10_text, cX10_text, 2, (some .int), KX10_text)) (C := KX10_text) (ls := [some (.ref a0), none]) rfl rfl rfl rfl ?_
  refine mX_to 1 (k' := 1) (ls' := [some (.ref a0), none]) (st' := [.ref a0]) (h' := h) rfl ?_
  refine mX_ck (k' := 2) (ls' := [some (.ref a0), none]) (st' := [.ref (gR h a0 0)]) (h' := h) rfl ?_
  refine mX_ck (k' := 3) (ls' := [some (.ref a0), none]) (st' := [.int (gI h (gR h a0 0) 4)]) (h' := h) rfl ?_
  refine mX_to 1 (k' := 4) (ls' := [some (.ref a0), none]) (st' := [.int 4, .int (gI h (gR h a0 0) 4)]) (h' := h) rfl ?_
  refine mX_br (t := 7) (f := 5) (ls' := [some (.ref a0), none]) (st' := []) (h' := h) rfl ?_ ?_
  · refine mX_to 1 (k' := 8) (ls' := [some (.ref a0), none]) (st' := [.ref a0]) (h' := h) rfl ?_
    refine mX_ck (k' := 9) (ls' := [some (.ref a0), none]) (st' := [.ref (gR h a0 4)]) (h' := h) rfl ?_
    refine mX_ckc (m := mcl (mE mtab d 93 [.ref (gR h a0 4)] h) 3 10 [some (.ref a0), none] []) rfl ?_
    refine mk_cR ?_
    intro x2 h1
    refine mX_to 2 (k' := 12) (ls' := [some (.ref a0), some (.ref x2)]) (st' := [.ref a0]) (h' := h1) rfl ?_
    refine mX_ck (k' := 13) (ls' := [some (.ref a0), some (.ref x2)]) (st' := [.ref (gR h1 a0 3)]) (h' := h1) rfl ?_
    refine mX_to 1 (k' := 14) (ls' := [some (.ref a0), some (.ref x2)]) (st' := [.int 0, .ref (gR h1 a0 3)]) (h' := h1) rfl ?_
    refine mX_ck (k' := 15) (ls' := [some (.ref a0), some (.ref x2)]) (st' := []) (h' := (sI h1 (gR h1 a0 3) 1 0)) rfl ?_
    refine lt_gen (X := fun h3 : MH => mX (mE mtab d) KX10_text 15 [some (.ref a0), some (.ref x2)] [] h3) fun h3 => ?_
    refine mX_to 1 (k' := 16) (ls' := [some (.ref a0), some (.ref x2)]) (st' := [.ref x2]) (h' := h3) rfl ?_
    refine mX_br (t := 17) (f := 19) (ls' := [some (.ref a0), some (.ref x2)]) (st' := []) (h' := h3) rfl ?_ ?_
    · refine mX_to 2 (k' := 23) (ls' := [some (.ref a0), some (.ref x2)]) (st' := [.int (-1)]) (h' := h3) rfl ?_
      exact mX_reti rfl
    · refine mX_to 1 (k' := 20) (ls' := [some (.ref a0), some (.ref x2)]) (st' := [.ref a0]) (h' := h3) rfl ?_
      refine mX_ck (k' := 21) (ls' := [some (.ref a0), some (.ref x2)]) (st' := [.ref (gR h3 a0 0)]) (h' := h3) rfl ?_
      refine mX_to 1 (k' := 22) (ls' := [some (.ref a0), some (.ref x2)]) (st' := [.ref x2, .ref (gR h3 a0 0)]) (h' := h3) rfl ?_
      refine mX_ckc (m := mcl (mE mtab d 94 [.ref (gR h3 a0 0), .ref x2] h3) 1 23 [some (.ref a0), some (.ref x2)] []) rfl ?_
      refine mk_cI ?_
      intro x5 h4
      exact mX_reti rfl
  · refine mX_to 1 (k' := 6) (ls' := [some (.ref a0), none]) (st' := [.int (-1)]) (h' := h) rfl ?_
    exact mX_reti rfl
theorem D_X11_byteAt (d : Nat) (h : MH) (a0 : Nat) (a1 : Int32) : mE mtab (d + 1) 96 [.ref a0, .int a1] h = ck (kd h a0 = 12) ((if a1 < (gI h a0 4) then ck (kd h a0 = 12) (ck ((kd h (gR h a0 3) = 20 ∨ kd h (gR h a0 3) = 24) ∧ ib a1 (ln h (gR h a0 3))) (some (.int (gI h (gR h a0 3) (ix a1)), h))) else some (.int (-1), h))) := by
  refine mE_eq (q := (yX11_byteAt, cX11_byteAt, 2, (some .int), KX11_byteAt)) (C := KX11_byteAt) (ls := [some (.ref a0), some (.int a1)]) rfl rfl rfl rfl ?_
  refine mX_to 2 (k' := 2) (ls' := [some (.ref a0), some (.int a1)]) (st' := [.ref a0, .int a1]) (h' := h) rfl ?_
  refine mX_ck (k' := 3) (ls' := [some (.ref a0), some (.int a1)]) (st' := [.int (gI h a0 4), .int a1]) (h' := h) rfl ?_
  refine mX_br (t := 4) (f := 9) (ls' := [some (.ref a0), some (.int a1)]) (st' := []) (h' := h) rfl ?_ ?_
  · refine mX_to 1 (k' := 5) (ls' := [some (.ref a0), some (.int a1)]) (st' := [.ref a0]) (h' := h) rfl ?_
    refine mX_ck (k' := 6) (ls' := [some (.ref a0), some (.int a1)]) (st' := [.ref (gR h a0 3)]) (h' := h) rfl ?_
    refine mX_to 1 (k' := 7) (ls' := [some (.ref a0), some (.int a1)]) (st' := [.int a1, .ref (gR h a0 3)]) (h' := h) rfl ?_
    refine mX_ck (k' := 8) (ls' := [some (.ref a0), some (.int a1)]) (st' := [.int (gI h (gR h a0 3) (ix a1))]) (h' := h) rfl ?_
    refine mX_to 1 (k' := 10) (ls' := [some (.ref a0), some (.int a1)]) (st' := [.int (gI h (gR h a0 3) (ix a1))]) (h' := h) rfl ?_
    exact mX_reti rfl
  · refine mX_to 1 (k' := 10) (ls' := [some (.ref a0), some (.int a1)]) (st' := [.int (-1)]) (h' := h) rfl ?_
    exact mX_reti rfl
theorem D_X11_isFigure (d : Nat) (h : MH) (a0 : Int32) : mE mtab (d + 1) 97 [.int a0] h = (if a0 < 48 then some (.int 0, h) else (if a0 ≤ 57 then some (.int 1, h) else some (.int 0, h))) := by
  refine mE_eq (q := (yX11_isFigure, cX11_isFigure, 1, (some .boolean), KX11_isFigure)) (C := KX11_isFigure) (ls := [some (.int a0)]) rfl rfl rfl rfl ?_
  refine mX_to 2 (k' := 2) (ls' := [some (.int a0)]) (st' := [.int 48, .int a0]) (h' := h) rfl ?_
  refine mX_br (t := 8) (f := 3) (ls' := [some (.int a0)]) (st' := []) (h' := h) rfl ?_ ?_
  · refine mX_to 1 (k' := 9) (ls' := [some (.int a0)]) (st' := [.int 0]) (h' := h) rfl ?_
    exact mX_retb (by decide) rfl
  · refine mX_to 2 (k' := 5) (ls' := [some (.int a0)]) (st' := [.int 57, .int a0]) (h' := h) rfl ?_
    refine mX_br (t := 6) (f := 8) (ls' := [some (.int a0)]) (st' := []) (h' := h) rfl ?_ ?_
    · refine mX_to 2 (k' := 9) (ls' := [some (.int a0)]) (st' := [.int 1]) (h' := h) rfl ?_
      exact mX_retb (by decide) rfl
    · refine mX_to 1 (k' := 9) (ls' := [some (.int a0)]) (st' := [.int 0]) (h' := h) rfl ?_
      exact mX_retb (by decide) rfl
theorem D_X11_isLetterByte_6 (d : Nat) (h : MH) (l0 : Int32) : mX (mE mtab d) KX11_isLetterByte 6 [some (.int l0)] [] h = (if l0 < 65 then some (.int 0, h) else (if l0 ≤ 90 then some (.int 1, h) else some (.int 0, h))) := by
  refine mX_to 2 (k' := 8) (ls' := [some (.int l0)]) (st' := [.int 65, .int l0]) (h' := h) rfl ?_
  refine mX_br (t := 14) (f := 9) (ls' := [some (.int l0)]) (st' := []) (h' := h) rfl ?_ ?_
  · refine mX_to 1 (k' := 15) (ls' := [some (.int l0)]) (st' := [.int 0]) (h' := h) rfl ?_
    exact mX_retb (by decide) rfl
  · refine mX_to 2 (k' := 11) (ls' := [some (.int l0)]) (st' := [.int 90, .int l0]) (h' := h) rfl ?_
    refine mX_br (t := 12) (f := 14) (ls' := [some (.int l0)]) (st' := []) (h' := h) rfl ?_ ?_
    · refine mX_to 2 (k' := 15) (ls' := [some (.int l0)]) (st' := [.int 1]) (h' := h) rfl ?_
      exact mX_retb (by decide) rfl
    · refine mX_to 1 (k' := 15) (ls' := [some (.int l0)]) (st' := [.int 0]) (h' := h) rfl ?_
      exact mX_retb (by decide) rfl
theorem D_X11_isLetterByte (d : Nat) (h : MH) (a0 : Int32) : mE mtab (d + 1) 98 [.int a0] h = (if a0 < 97 then mX (mE mtab d) KX11_isLetterByte 6 [some (.int a0)] [] h else (if a0 ≤ 122 then some (.int 1, h) else mX (mE mtab d) KX11_isLetterByte 6 [some (.int a0)] [] h)) := by
  refine mE_eq (q := (yX11_isLetterByte, cX11_isLetterByte, 1, (some .boolean), KX11_isLetterByte)) (C := KX11_isLetterByte) (ls := [some (.int a0)]) rfl rfl rfl rfl ?_
  refine mX_to 2 (k' := 2) (ls' := [some (.int a0)]) (st' := [.int 97, .int a0]) (h' := h) rfl ?_
  refine mX_br (t := 6) (f := 3) (ls' := [some (.int a0)]) (st' := []) (h' := h) rfl ?_ ?_
  · rfl
  · refine mX_to 2 (k' := 5) (ls' := [some (.int a0)]) (st' := [.int 122, .int a0]) (h' := h) rfl ?_
    refine mX_br (t := 12) (f := 6) (ls' := [some (.int a0)]) (st' := []) (h' := h) rfl ?_ ?_
    · refine mX_to 2 (k' := 15) (ls' := [some (.int a0)]) (st' := [.int 1]) (h' := h) rfl ?_
      exact mX_retb (by decide) rfl
    · rfl
theorem D_X11_isSign (d : Nat) (h : MH) (a0 : Int32) : mE mtab (d + 1) 99 [.int a0] h = (if a0 = 35 then some (.int 1, h) else (if a0 = 36 then some (.int 0, h) else (if a0 = 37 then some (.int 0, h) else (if a0 = 38 then some (.int 0, h) else (if a0 = 39 then some (.int 0, h) else (if a0 = 40 then some (.int 1, h) else (if a0 = 41 then some (.int 1, h) else (if a0 = 42 then some (.int 1, h) else (if a0 = 43 then some (.int 1, h) else (if a0 = 44 then some (.int 0, h) else (if a0 = 45 then some (.int 1, h) else (if a0 = 46 then some (.int 0, h) else (if a0 = 47 then some (.int 1, h) else (if a0 = 48 then some (.int 0, h) else (if a0 = 49 then some (.int 0, h) else (if a0 = 50 then some (.int 0, h) else (if a0 = 51 then some (.int 0, h) else (if a0 = 52 then some (.int 0, h) else (if a0 = 53 then some (.int 0, h) else (if a0 = 54 then some (.int 0, h) else (if a0 = 55 then some (.int 0, h) else (if a0 = 56 then some (.int 0, h) else (if a0 = 57 then some (.int 0, h) else (if a0 = 58 then some (.int 1, h) else (if a0 = 59 then some (.int 1, h) else (if a0 = 60 then some (.int 1, h) else (if a0 = 61 then some (.int 1, h) else (if a0 = 62 then some (.int 1, h) else some (.int 0, h))))))))))))))))))))))))))))) := by
  refine mE_eq (q := (yX11_isSign, cX11_isSign, 1, (some .boolean), KX11_isSign)) (C := KX11_isSign) (ls := [some (.int a0)]) rfl rfl rfl rfl ?_
  refine mX_to 1 (k' := 1) (ls' := [some (.int a0)]) (st' := [.int a0]) (h' := h) rfl ?_
  refine mX_sw (x := a0) (t := 4) (sw := [(35, 2), (36, 4), (37, 4), (38, 4), (39, 4), (40, 2), (41, 2), (42, 2), (43, 2), (44, 4), (45, 2), (46, 4), (47, 2), (48, 4), (49, 4), (50, 4), (51, 4), (52, 4), (53, 4), (54, 4), (55, 4), (56, 4), (57, 4), (58, 2), (59, 2), (60, 2), (61, 2), (62, 2)]) (ls' := [some (.int a0)]) (st' := []) (h' := h) rfl ?_
  refine msw_cons ?_ ?_
  · refine mX_to 1 (k' := 3) (ls' := [some (.int a0)]) (st' := [.int 1]) (h' := h) rfl ?_
    exact mX_retb (by decide) rfl
  refine msw_cons ?_ ?_
  · refine mX_to 1 (k' := 5) (ls' := [some (.int a0)]) (st' := [.int 0]) (h' := h) rfl ?_
    exact mX_retb (by decide) rfl
  refine msw_cons ?_ ?_
  · refine mX_to 1 (k' := 5) (ls' := [some (.int a0)]) (st' := [.int 0]) (h' := h) rfl ?_
    exact mX_retb (by decide) rfl
  refine msw_cons ?_ ?_
  · refine mX_to 1 (k' := 5) (ls' := [some (.int a0)]) (st' := [.int 0]) (h' := h) rfl ?_
    exact mX_retb (by decide) rfl
  refine msw_cons ?_ ?_
  · refine mX_to 1 (k' := 5) (ls' := [some (.int a0)]) (st' := [.int 0]) (h' := h) rfl ?_
    exact mX_retb (by decide) rfl
  refine msw_cons ?_ ?_
  · refine mX_to 1 (k' := 3) (ls' := [some (.int a0)]) (st' := [.int 1]) (h' := h) rfl ?_
    exact mX_retb (by decide) rfl
  refine msw_cons ?_ ?_
  · refine mX_to 1 (k' := 3) (ls' := [some (.int a0)]) (st' := [.int 1]) (h' := h) rfl ?_
    exact mX_retb (by decide) rfl
  refine msw_cons ?_ ?_
  · refine mX_to 1 (k' := 3) (ls' := [some (.int a0)]) (st' := [.int 1]) (h' := h) rfl ?_
    exact mX_retb (by decide) rfl
  refine msw_cons ?_ ?_
  · refine mX_to 1 (k' := 3) (ls' := [some (.int a0)]) (st' := [.int 1]) (h' := h) rfl ?_
    exact mX_retb (by decide) rfl
  refine msw_cons ?_ ?_
  · refine mX_to 1 (k' := 5) (ls' := [some (.int a0)]) (st' := [.int 0]) (h' := h) rfl ?_
    exact mX_retb (by decide) rfl
  refine msw_cons ?_ ?_
  · refine mX_to 1 (k' := 3) (ls' := [some (.int a0)]) (st' := [.int 1]) (h' := h) rfl ?_
    exact mX_retb (by decide) rfl
  refine msw_cons ?_ ?_
  · refine mX_to 1 (k' := 5) (ls' := [some (.int a0)]) (st' := [.int 0]) (h' := h) rfl ?_
    exact mX_retb (by decide) rfl
  refine msw_cons ?_ ?_
  · refine mX_to 1 (k' := 3) (ls' := [some (.int a0)]) (st' := [.int 1]) (h' := h) rfl ?_
    exact mX_retb (by decide) rfl
  refine msw_cons ?_ ?_
  · refine mX_to 1 (k' := 5) (ls' := [some (.int a0)]) (st' := [.int 0]) (h' := h) rfl ?_
    exact mX_retb (by decide) rfl
  refine msw_cons ?_ ?_
  · refine mX_to 1 (k' := 5) (ls' := [some (.int a0)]) (st' := [.int 0]) (h' := h) rfl ?_
    exact mX_retb (by decide) rfl
  refine msw_cons ?_ ?_
  · refine mX_to 1 (k' := 5) (ls' := [some (.int a0)]) (st' := [.int 0]) (h' := h) rfl ?_
    exact mX_retb (by decide) rfl
  refine msw_cons ?_ ?_
  · refine mX_to 1 (k' := 5) (ls' := [some (.int a0)]) (st' := [.int 0]) (h' := h) rfl ?_
    exact mX_retb (by decide) rfl
  refine msw_cons ?_ ?_
  · refine mX_to 1 (k' := 5) (ls' := [some (.int a0)]) (st' := [.int 0]) (h' := h) rfl ?_
    exact mX_retb (by decide) rfl
  refine msw_cons ?_ ?_
  · refine mX_to 1 (k' := 5) (ls' := [some (.int a0)]) (st' := [.int 0]) (h' := h) rfl ?_
    exact mX_retb (by decide) rfl
  refine msw_cons ?_ ?_
  · refine mX_to 1 (k' := 5) (ls' := [some (.int a0)]) (st' := [.int 0]) (h' := h) rfl ?_
    exact mX_retb (by decide) rfl
  refine msw_cons ?_ ?_
  · refine mX_to 1 (k' := 5) (ls' := [some (.int a0)]) (st' := [.int 0]) (h' := h) rfl ?_
    exact mX_retb (by decide) rfl
  refine msw_cons ?_ ?_
  · refine mX_to 1 (k' := 5) (ls' := [some (.int a0)]) (st' := [.int 0]) (h' := h) rfl ?_
    exact mX_retb (by decide) rfl
  refine msw_cons ?_ ?_
  · refine mX_to 1 (k' := 5) (ls' := [some (.int a0)]) (st' := [.int 0]) (h' := h) rfl ?_
    exact mX_retb (by decide) rfl
  refine msw_cons ?_ ?_
  · refine mX_to 1 (k' := 3) (ls' := [some (.int a0)]) (st' := [.int 1]) (h' := h) rfl ?_
    exact mX_retb (by decide) rfl
  refine msw_cons ?_ ?_
  · refine mX_to 1 (k' := 3) (ls' := [some (.int a0)]) (st' := [.int 1]) (h' := h) rfl ?_
    exact mX_retb (by decide) rfl
  refine msw_cons ?_ ?_
  · refine mX_to 1 (k' := 3) (ls' := [some (.int a0)]) (st' := [.int 1]) (h' := h) rfl ?_
    exact mX_retb (by decide) rfl
  refine msw_cons ?_ ?_
  · refine mX_to 1 (k' := 3) (ls' := [some (.int a0)]) (st' := [.int 1]) (h' := h) rfl ?_
    exact mX_retb (by decide) rfl
  refine msw_cons ?_ ?_
  · refine mX_to 1 (k' := 3) (ls' := [some (.int a0)]) (st' := [.int 1]) (h' := h) rfl ?_
    exact mX_retb (by decide) rfl
  refine msw_nil ?_
  refine mX_to 1 (k' := 5) (ls' := [some (.int a0)]) (st' := [.int 0]) (h' := h) rfl ?_
  exact mX_retb (by decide) rfl
theorem D_X11_nextToken_12 (d : Nat) (h : MH) (l0 : Nat) : mX (mE mtab d) KX11_nextToken 12 [some (.ref l0), none] [] h = ck (kd h l0 = 12) (ck (kd h l0 = 12) (lt_ (sI h l0 7 ((gI h l0 7) + 1)) fun h19 => mX (mE mtab d) KX11_nextToken 0 [some (.ref l0), none] [] h19)) := by
  refine mX_to 2 (k' := 14) (ls' := [some (.ref l0), none]) (st' := [.ref l0, .ref l0]) (h' := h) rfl ?_
  refine mX_ck (k' := 15) (ls' := [some (.ref l0), none]) (st' := [.int (gI h l0 7), .ref l0]) (h' := h) rfl ?_
  refine mX_to 2 (k' := 17) (ls' := [some (.ref l0), none]) (st' := [.int ((gI h l0 7) + 1), .ref l0]) (h' := h) rfl ?_
  refine mX_ck (k' := 18) (ls' := [some (.ref l0), none]) (st' := []) (h' := (sI h l0 7 ((gI h l0 7) + 1))) rfl ?_
  refine lt_gen (X := fun h19 : MH => mX (mE mtab d) KX11_nextToken 18 [some (.ref l0), none] [] h19) fun h19 => ?_
  refine mX_to 1 (k' := 0) (ls' := [some (.ref l0), none]) (st' := []) (h' := h19) rfl ?_
  rfl
theorem D_X11_nextToken_126 (d : Nat) (h : MH) (l0 : Nat) (l1 : Int32) (s0 : Int32) (s1 : Nat) : mX (mE mtab d) KX11_nextToken 126 [some (.ref l0), some (.int l1)] [.int s0, .ref s1] h = ck (kd h s1 = 12) (lt_ (sI h s1 9 s0) fun h20 => ck (kd h20 l0 = 12) (ck (kd h20 l0 = 12) (lt_ (sI h20 l0 7 ((gI h20 l0 7) + 1)) fun h21 => (if l1 = 60 then mX (mE mtab d) KX11_nextToken 139 [some (.ref l0), some (.int l1)] [] h21 else (if l1 = 62 then mX (mE mtab d) KX11_nextToken 139 [some (.ref l0), some (.int l1)] [] h21 else some (.int 0, h21)))))) := by
  refine mX_ck (k' := 127) (ls' := [some (.ref l0), some (.int l1)]) (st' := []) (h' := (sI h s1 9 s0)) rfl ?_
  refine lt_gen (X := fun h20 : MH => mX (mE mtab d) KX11_nextToken 127 [some (.ref l0), some (.int l1)] [] h20) fun h20 => ?_
  refine mX_to 2 (k' := 129) (ls' := [some (.ref l0), some (.int l1)]) (st' := [.ref l0, .ref l0]) (h' := h20) rfl ?_
  refine mX_ck (k' := 130) (ls' := [some (.ref l0), some (.int l1)]) (st' := [.int (gI h20 l0 7), .ref l0]) (h' := h20) rfl ?_
  refine mX_to 2 (k' := 132) (ls' := [some (.ref l0), some (.int l1)]) (st' := [.int ((gI h20 l0 7) + 1), .ref l0]) (h' := h20) rfl ?_
  refine mX_ck (k' := 133) (ls' := [some (.ref l0), some (.int l1)]) (st' := []) (h' := (sI h20 l0 7 ((gI h20 l0 7) + 1))) rfl ?_
  refine lt_gen (X := fun h21 : MH => mX (mE mtab d) KX11_nextToken 133 [some (.ref l0), some (.int l1)] [] h21) fun h21 => ?_
  refine mX_to 2 (k' := 135) (ls' := [some (.ref l0), some (.int l1)]) (st' := [.int 60, .int l1]) (h' := h21) rfl ?_
  refine mX_br (t := 139) (f := 136) (ls' := [some (.ref l0), some (.int l1)]) (st' := []) (h' := h21) rfl ?_ ?_
  · rfl
  · refine mX_to 2 (k' := 138) (ls' := [some (.ref l0), some (.int l1)]) (st' := [.int 62, .int l1]) (h' := h21) rfl ?_
    refine mX_br (t := 139) (f := 159) (ls' := [some (.ref l0), some (.int l1)]) (st' := []) (h' := h21) rfl ?_ ?_
    · rfl
    · exact mX_ret rfl
theorem D_X11_nextToken_85 (d : Nat) (h : MH) (l0 : Nat) (l1 : Int32) : mX (mE mtab d) KX11_nextToken 85 [some (.ref l0), some (.int l1)] [] h = ck (kd h l0 = 12) (ck (kd h l0 = 12) (cI (mE mtab d 96 [.ref l0, .int (gI h l0 7)] h) (fun x23 h22 => cI (mE mtab d 98 [.int x23] h22) (fun x25 h24 => (if x25 = 0 then some (.int 0, h24) else ck (kd h24 l0 = 12) ((if (lg_cmp ((gL h24 l0 11) >>> ((48 : Int32).toInt64 &&& 63)) 0) = 0 then ck (kd h24 l0 = 12) (ck (kd h24 l0 = 12) (ck (kd h24 l0 = 12) (cI (mE mtab d 96 [.ref l0, .int (gI h24 l0 7)] h24) (fun x27 h26 => mX (mE mtab d) KX11_nextToken 111 [some (.ref l0), some (.int l1)] [.long (((gL h24 l0 11) <<< ((8 : Int32).toInt64 &&& 63)) ||| ((x27 : Int32).toInt64)), .ref l0] h26)))) else mX (mE mtab d) KX11_nextToken 111 [some (.ref l0), some (.int l1)] [.long 1152921504606846976, .ref l0] h24))))))) := by
  refine mX_to 2 (k' := 87) (ls' := [some (.ref l0), some (.int l1)]) (st' := [.ref l0, .ref l0]) (h' := h) rfl ?_
  refine mX_ck (k' := 88) (ls' := [some (.ref l0), some (.int l1)]) (st' := [.int (gI h l0 7), .ref l0]) (h' := h) rfl ?_
  refine mX_ckc (m := mcl (mE mtab d 96 [.ref l0, .int (gI h l0 7)] h) 1 89 [some (.ref l0), some (.int l1)] []) rfl ?_
  refine mk_cI ?_
  intro x23 h22
  refine mX_cI (o := mE mtab d 98 [.int x23] h22) (k' := 90) (ls' := [some (.ref l0), some (.int l1)]) (st' := []) rfl ?_
  intro x25 h24
  refine mX_br (t := 159) (f := 91) (ls' := [some (.ref l0), some (.int l1)]) (st' := []) (h' := h24) rfl ?_ ?_
  · exact mX_ret rfl
  · refine mX_to 2 (k' := 93) (ls' := [some (.ref l0), some (.int l1)]) (st' := [.ref l0, .ref l0]) (h' := h24) rfl ?_
    refine mX_ck (k' := 94) (ls' := [some (.ref l0), some (.int l1)]) (st' := [.long (gL h24 l0 11), .ref l0]) (h' := h24) rfl ?_
    refine mX_to 4 (k' := 98) (ls' := [some (.ref l0), some (.int l1)]) (st' := [.int (lg_cmp ((gL h24 l0 11) >>> ((48 : Int32).toInt64 &&& 63)) 0), .ref l0]) (h' := h24) rfl ?_
    refine mX_br (t := 101) (f := 99) (ls' := [some (.ref l0), some (.int l1)]) (st' := [.ref l0]) (h' := h24) rfl ?_ ?_
    · refine mX_to 1 (k' := 102) (ls' := [some (.ref l0), some (.int l1)]) (st' := [.ref l0, .ref l0]) (h' := h24) rfl ?_
      refine mX_ck (k' := 103) (ls' := [some (.ref l0), some (.int l1)]) (st' := [.long (gL h24 l0 11), .ref l0]) (h' := h24) rfl ?_
      refine mX_to 4 (k' := 107) (ls' := [some (.ref l0), some (.int l1)]) (st' := [.ref l0, .ref l0, .long ((gL h24 l0 11) <<< ((8 : Int32).toInt64 &&& 63)), .ref l0]) (h' := h24) rfl ?_
      refine mX_ck (k' := 108) (ls' := [some (.ref l0), some (.int l1)]) (st' := [.int (gI h24 l0 7), .ref l0, .long ((gL h24 l0 11) <<< ((8 : Int32).toInt64 &&& 63)), .ref l0]) (h' := h24) rfl ?_
      refine mX_ckc (m := mcl (mE mtab d 96 [.ref l0, .int (gI h24 l0 7)] h24) 1 109 [some (.ref l0), some (.int l1)] [.long ((gL h24 l0 11) <<< ((8 : Int32).toInt64 &&& 63)), .ref l0]) rfl ?_
      refine mk_cI ?_
      intro x27 h26
      refine mX_to 2 (k' := 111) (ls' := [some (.ref l0), some (.int l1)]) (st' := [.long (((gL h24 l0 11) <<< ((8 : Int32).toInt64 &&& 63)) ||| ((x27 : Int32).toInt64)), .ref l0]) (h' := h26) rfl ?_
      rfl
    · refine mX_to 2 (k' := 111) (ls' := [some (.ref l0), some (.int l1)]) (st' := [.long 1152921504606846976, .ref l0]) (h' := h24) rfl ?_
      rfl
theorem D_X11_nextToken_43 (d : Nat) (h : MH) (l0 : Nat) (l1 : Int32) : mX (mE mtab d) KX11_nextToken 43 [some (.ref l0), some (.int l1)] [] h = ck (kd h l0 = 12) (ck (kd h l0 = 12) (cI (mE mtab d 96 [.ref l0, .int (gI h l0 7)] h) (fun x29 h28 => cI (mE mtab d 97 [.int x29] h28) (fun x31 h30 => (if x31 = 0 then some (.int 0, h30) else ck (kd h30 l0 = 12) ((if (gI h30 l0 10) ≤ 99999 then ck (kd h30 l0 = 12) (ck (kd h30 l0 = 12) (ck (kd h30 l0 = 12) (cI (mE mtab d 96 [.ref l0, .int (gI h30 l0 7)] h30) (fun x33 h32 => mX (mE mtab d) KX11_nextToken 68 [some (.ref l0), some (.int l1)] [.int (((10 * (gI h30 l0 10)) + x33) - 48), .ref l0] h32)))) else ck (kd h30 l0 = 12) (mX (mE mtab d) KX11_nextToken 68 [some (.ref l0), some (.int l1)] [.int (gI h30 l0 10), .ref l0] h30)))))))) := by
  refine mX_to 2 (k' := 45) (ls' := [some (.ref l0), some (.int l1)]) (st' := [.ref l0, .ref l0]) (h' := h) rfl ?_
  refine mX_ck (k' := 46) (ls' := [some (.ref l0), some (.int l1)]) (st' := [.int (gI h l0 7), .ref l0]) (h' := h) rfl ?_
  refine mX_ckc (m := mcl (mE mtab d 96 [.ref l0, .int (gI h l0 7)] h) 1 47 [some (.ref l0), some (.int l1)] []) rfl ?_
  refine mk_cI ?_
  intro x29 h28
  refine mX_cI (o := mE mtab d 97 [.int x29] h28) (k' := 48) (ls' := [some (.ref l0), some (.int l1)]) (st' := []) rfl ?_
  intro x31 h30
  refine mX_br (t := 159) (f := 49) (ls' := [some (.ref l0), some (.int l1)]) (st' := []) (h' := h30) rfl ?_ ?_
  · exact mX_ret rfl
  · refine mX_to 2 (k' := 51) (ls' := [some (.ref l0), some (.int l1)]) (st' := [.ref l0, .ref l0]) (h' := h30) rfl ?_
    refine mX_ck (k' := 52) (ls' := [some (.ref l0), some (.int l1)]) (st' := [.int (gI h30 l0 10), .ref l0]) (h' := h30) rfl ?_
    refine mX_to 1 (k' := 53) (ls' := [some (.ref l0), some (.int l1)]) (st' := [.int 99999, .int (gI h30 l0 10), .ref l0]) (h' := h30) rfl ?_
    refine mX_br (t := 57) (f := 54) (ls' := [some (.ref l0), some (.int l1)]) (st' := [.ref l0]) (h' := h30) rfl ?_ ?_
    · refine mX_to 2 (k' := 59) (ls' := [some (.ref l0), some (.int l1)]) (st' := [.ref l0, .int 10, .ref l0]) (h' := h30) rfl ?_
      refine mX_ck (k' := 60) (ls' := [some (.ref l0), some (.int l1)]) (st' := [.int (gI h30 l0 10), .int 10, .ref l0]) (h' := h30) rfl ?_
      refine mX_to 3 (k' := 63) (ls' := [some (.ref l0), some (.int l1)]) (st' := [.ref l0, .ref l0, .int (10 * (gI h30 l0 10)), .ref l0]) (h' := h30) rfl ?_
      refine mX_ck (k' := 64) (ls' := [some (.ref l0), some (.int l1)]) (st' := [.int (gI h30 l0 7), .ref l0, .int (10 * (gI h30 l0 10)), .ref l0]) (h' := h30) rfl ?_
      refine mX_ckc (m := mcl (mE mtab d 96 [.ref l0, .int (gI h30 l0 7)] h30) 1 65 [some (.ref l0), some (.int l1)] [.int (10 * (gI h30 l0 10)), .ref l0]) rfl ?_
      refine mk_cI ?_
      intro x33 h32
      refine mX_to 3 (k' := 68) (ls' := [some (.ref l0), some (.int l1)]) (st' := [.int (((10 * (gI h30 l0 10)) + x33) - 48), .ref l0]) (h' := h32) rfl ?_
      rfl
    · refine mX_to 1 (k' := 55) (ls' := [some (.ref l0), some (.int l1)]) (st' := [.ref l0, .ref l0]) (h' := h30) rfl ?_
      refine mX_ck (k' := 56) (ls' := [some (.ref l0), some (.int l1)]) (st' := [.int (gI h30 l0 10), .ref l0]) (h' := h30) rfl ?_
      refine mX_to 1 (k' := 68) (ls' := [some (.ref l0), some (.int l1)]) (st' := [.int (gI h30 l0 10), .ref l0]) (h' := h30) rfl ?_
      rfl
theorem D_X11_nextToken_0 (d : Nat) (h : MH) (l0 : Nat) : mX (mE mtab d) KX11_nextToken 0 [some (.ref l0), none] [] h = ck (kd h l0 = 12) (ck (kd h l0 = 12) (cI (mE mtab d 96 [.ref l0, .int (gI h l0 7)] h) (fun x35 h34 => (if x35 = 32 then mX (mE mtab d) KX11_nextToken 12 [some (.ref l0), none] [] h34 else ck (kd h34 l0 = 12) (ck (kd h34 l0 = 12) (cI (mE mtab d 96 [.ref l0, .int (gI h34 l0 7)] h34) (fun x37 h36 => (if x37 = 10 then mX (mE mtab d) KX11_nextToken 12 [some (.ref l0), none] [] h36 else ck (kd h36 l0 = 12) (ck (kd h36 l0 = 12) (lt_ (sI h36 l0 8 (gI h36 l0 7)) fun h38 => ck (kd h38 l0 = 12) (ck (kd h38 l0 = 12) (cI (mE mtab d 96 [.ref l0, .int (gI h38 l0 7)] h38) (fun x40 h39 => (if x40 < 0 then ck (kd h39 l0 = 12) (lt_ (sI h39 l0 9 0) fun h41 => some (.int 0, h41)) else cI (mE mtab d 97 [.int x40] h39) (fun x43 h42 => (if x43 = 0 then cI (mE mtab d 98 [.int x40] h42) (fun x45 h44 => (if x45 = 0 then cI (mE mtab d 99 [.int x40] h44) (fun x47 h46 => (if x47 = 0 then mX (mE mtab d) KX11_nextToken 126 [some (.ref l0), some (.int x40)] [.int 3, .ref l0] h46 else mX (mE mtab d) KX11_nextToken 126 [some (.ref l0), some (.int x40)] [.int x40, .ref l0] h46)) else ck (kd h44 l0 = 12) (lt_ (sI h44 l0 9 2) fun h48 => ck (kd h48 l0 = 12) (lt_ (sL h48 l0 11 0) fun h49 => mX (mE mtab d) KX11_nextToken 85 [some (.ref l0), some (.int x40)] [] h49)))) else ck (kd h42 l0 = 12) (lt_ (sI h42 l0 9 1) fun h50 => ck (kd h50 l0 = 12) (lt_ (sI h50 l0 10 0) fun h51 => mX (mE mtab d) KX11_nextToken 43 [some (.ref l0), some (.int x40)] [] h51)))))))))))))))))) := by
  refine mX_to 2 (k' := 2) (ls' := [some (.ref l0), none]) (st' := [.ref l0, .ref l0]) (h' := h) rfl ?_
  refine mX_ck (k' := 3) (ls' := [some (.ref l0), none]) (st' := [.int (gI h l0 7), .ref l0]) (h' := h) rfl ?_
  refine mX_ckc (m := mcl (mE mtab d 96 [.ref l0, .int (gI h l0 7)] h) 1 4 [some (.ref l0), none] []) rfl ?_
  refine mk_cI ?_
  intro x35 h34
  refine mX_to 1 (k' := 5) (ls' := [some (.ref l0), none]) (st' := [.int 32, .int x35]) (h' := h34) rfl ?_
  refine mX_br (t := 12) (f := 6) (ls' := [some (.ref l0), none]) (st' := []) (h' := h34) rfl ?_ ?_
  · rfl
  · refine mX_to 2 (k' := 8) (ls' := [some (.ref l0), none]) (st' := [.ref l0, .ref l0]) (h' := h34) rfl ?_
    refine mX_ck (k' := 9) (ls' := [some (.ref l0), none]) (st' := [.int (gI h34 l0 7), .ref l0]) (h' := h34) rfl ?_
    refine mX_ckc (m := mcl (mE mtab d 96 [.ref l0, .int (gI h34 l0 7)] h34) 1 10 [some (.ref l0), none] []) rfl ?_
    refine mk_cI ?_
    intro x37 h36
    refine mX_to 1 (k' := 11) (ls' := [some (.ref l0), none]) (st' := [.int 10, .int x37]) (h' := h36) rfl ?_
    refine mX_br (t := 12) (f := 19) (ls' := [some (.ref l0), none]) (st' := []) (h' := h36) rfl ?_ ?_
    · rfl
    · refine mX_to 2 (k' := 21) (ls' := [some (.ref l0), none]) (st' := [.ref l0, .ref l0]) (h' := h36) rfl ?_
      refine mX_ck (k' := 22) (ls' := [some (.ref l0), none]) (st' := [.int (gI h36 l0 7), .ref l0]) (h' := h36) rfl ?_
      refine mX_ck (k' := 23) (ls' := [some (.ref l0), none]) (st' := []) (h' := (sI h36 l0 8 (gI h36 l0 7))) rfl ?_
      refine lt_gen (X := fun h38 : MH => mX (mE mtab d) KX11_nextToken 23 [some (.ref l0), none] [] h38) fun h38 => ?_
      refine mX_to 2 (k' := 25) (ls' := [some (.ref l0), none]) (st' := [.ref l0, .ref l0]) (h' := h38) rfl ?_
      refine mX_ck (k' := 26) (ls' := [some (.ref l0), none]) (st' := [.int (gI h38 l0 7), .ref l0]) (h' := h38) rfl ?_
      refine mX_ckc (m := mcl (mE mtab d 96 [.ref l0, .int (gI h38 l0 7)] h38) 1 27 [some (.ref l0), none] []) rfl ?_
      refine mk_cI ?_
      intro x40 h39
      refine mX_to 2 (k' := 29) (ls' := [some (.ref l0), some (.int x40)]) (st' := [.int x40]) (h' := h39) rfl ?_
      refine mX_br (t := 30) (f := 34) (ls' := [some (.ref l0), some (.int x40)]) (st' := []) (h' := h39) rfl ?_ ?_
      · refine mX_to 2 (k' := 32) (ls' := [some (.ref l0), some (.int x40)]) (st' := [.int 0, .ref l0]) (h' := h39) rfl ?_
        refine mX_ck (k' := 33) (ls' := [some (.ref l0), some (.int x40)]) (st' := []) (h' := (sI h39 l0 9 0)) rfl ?_
        refine lt_gen (X := fun h41 : MH => mX (mE mtab d) KX11_nextToken 33 [some (.ref l0), some (.int x40)] [] h41) fun h41 => ?_
        refine mX_to 1 (k' := 159) (ls' := [some (.ref l0), some (.int x40)]) (st' := []) (h' := h41) rfl ?_
        exact mX_ret rfl
      · refine mX_to 1 (k' := 35) (ls' := [some (.ref l0), some (.int x40)]) (st' := [.int x40]) (h' := h39) rfl ?_
        refine mX_cI (o := mE mtab d 97 [.int x40] h39) (k' := 36) (ls' := [some (.ref l0), some (.int x40)]) (st' := []) rfl ?_
        intro x43 h42
        refine mX_br (t := 76) (f := 37) (ls' := [some (.ref l0), some (.int x40)]) (st' := []) (h' := h42) rfl ?_ ?_
        · refine mX_to 1 (k' := 77) (ls' := [some (.ref l0), some (.int x40)]) (st' := [.int x40]) (h' := h42) rfl ?_
          refine mX_cI (o := mE mtab d 98 [.int x40] h42) (k' := 78) (ls' := [some (.ref l0), some (.int x40)]) (st' := []) rfl ?_
          intro x45 h44
          refine mX_br (t := 119) (f := 79) (ls' := [some (.ref l0), some (.int x40)]) (st' := []) (h' := h44) rfl ?_ ?_
          · refine mX_to 2 (k' := 121) (ls' := [some (.ref l0), some (.int x40)]) (st' := [.int x40, .ref l0]) (h' := h44) rfl ?_
            refine mX_cI (o := mE mtab d 99 [.int x40] h44) (k' := 122) (ls' := [some (.ref l0), some (.int x40)]) (st' := [.ref l0]) rfl ?_
            intro x47 h46
            refine mX_br (t := 125) (f := 123) (ls' := [some (.ref l0), some (.int x40)]) (st' := [.ref l0]) (h' := h46) rfl ?_ ?_
            · refine mX_to 1 (k' := 126) (ls' := [some (.ref l0), some (.int x40)]) (st' := [.int 3, .ref l0]) (h' := h46) rfl ?_
              rfl
            · refine mX_to 2 (k' := 126) (ls' := [some (.ref l0), some (.int x40)]) (st' := [.int x40, .ref l0]) (h' := h46) rfl ?_
              rfl
          · refine mX_to 2 (k' := 81) (ls' := [some (.ref l0), some (.int x40)]) (st' := [.int 2, .ref l0]) (h' := h44) rfl ?_
            refine mX_ck (k' := 82) (ls' := [some (.ref l0), some (.int x40)]) (st' := []) (h' := (sI h44 l0 9 2)) rfl ?_
            refine lt_gen (X := fun h48 : MH => mX (mE mtab d) KX11_nextToken 82 [some (.ref l0), some (.int x40)] [] h48) fun h48 => ?_
            refine mX_to 2 (k' := 84) (ls' := [some (.ref l0), some (.int x40)]) (st' := [.long 0, .ref l0]) (h' := h48) rfl ?_
            refine mX_ck (k' := 85) (ls' := [some (.ref l0), some (.int x40)]) (st' := []) (h' := (sL h48 l0 11 0)) rfl ?_
            refine lt_gen (X := fun h49 : MH => mX (mE mtab d) KX11_nextToken 85 [some (.ref l0), some (.int x40)] [] h49) fun h49 => ?_
            rfl
        · refine mX_to 2 (k' := 39) (ls' := [some (.ref l0), some (.int x40)]) (st' := [.int 1, .ref l0]) (h' := h42) rfl ?_
          refine mX_ck (k' := 40) (ls' := [some (.ref l0), some (.int x40)]) (st' := []) (h' := (sI h42 l0 9 1)) rfl ?_
          refine lt_gen (X := fun h50 : MH => mX (mE mtab d) KX11_nextToken 40 [some (.ref l0), some (.int x40)] [] h50) fun h50 => ?_
          refine mX_to 2 (k' := 42) (ls' := [some (.ref l0), some (.int x40)]) (st' := [.int 0, .ref l0]) (h' := h50) rfl ?_
          refine mX_ck (k' := 43) (ls' := [some (.ref l0), some (.int x40)]) (st' := []) (h' := (sI h50 l0 10 0)) rfl ?_
          refine lt_gen (X := fun h51 : MH => mX (mE mtab d) KX11_nextToken 43 [some (.ref l0), some (.int x40)] [] h51) fun h51 => ?_
          rfl
theorem D_X11_nextToken_139 (d : Nat) (h : MH) (l0 : Nat) (l1 : Int32) : mX (mE mtab d) KX11_nextToken 139 [some (.ref l0), some (.int l1)] [] h = ck (kd h l0 = 12) (ck (kd h l0 = 12) (cI (mE mtab d 96 [.ref l0, .int (gI h l0 7)] h) (fun x53 h52 => (if x53 = 61 then (if l1 = 60 then mX (mE mtab d) KX11_nextToken 152 [some (.ref l0), some (.int l1)] [.int 4, .ref l0] h52 else mX (mE mtab d) KX11_nextToken 152 [some (.ref l0), some (.int l1)] [.int 5, .ref l0] h52) else some (.int 0, h52))))) := by
  refine mX_to 2 (k' := 141) (ls' := [some (.ref l0), some (.int l1)]) (st' := [.ref l0, .ref l0]) (h' := h) rfl ?_
  refine mX_ck (k' := 142) (ls' := [some (.ref l0), some (.int l1)]) (st' := [.int (gI h l0 7), .ref l0]) (h' := h) rfl ?_
  refine mX_ckc (m := mcl (mE mtab d 96 [.ref l0, .int (gI h l0 7)] h) 1 143 [some (.ref l0), some (.int l1)] []) rfl ?_
  refine mk_cI ?_
  intro x53 h52
  refine mX_to 1 (k' := 144) (ls' := [some (.ref l0), some (.int l1)]) (st' := [.int 61, .int x53]) (h' := h52) rfl ?_
  refine mX_br (t := 145) (f := 159) (ls' := [some (.ref l0), some (.int l1)]) (st' := []) (h' := h52) rfl ?_ ?_
  · refine mX_to 3 (k' := 148) (ls' := [some (.ref l0), some (.int l1)]) (st' := [.int 60, .int l1, .ref l0]) (h' := h52) rfl ?_
    refine mX_br (t := 149) (f := 151) (ls' := [some (.ref l0), some (.int l1)]) (st' := [.ref l0]) (h' := h52) rfl ?_ ?_
    · refine mX_to 2 (k' := 152) (ls' := [some (.ref l0), some (.int l1)]) (st' := [.int 4, .ref l0]) (h' := h52) rfl ?_
      rfl
    · refine mX_to 1 (k' := 152) (ls' := [some (.ref l0), some (.int l1)]) (st' := [.int 5, .ref l0]) (h' := h52) rfl ?_
      rfl
  · exact mX_ret rfl
theorem D_X11_nextToken_111 (d : Nat) (h : MH) (l0 : Nat) (l1 : Int32) (s0 : Int64) (s1 : Nat) : mX (mE mtab d) KX11_nextToken 111 [some (.ref l0), some (.int l1)] [.long s0, .ref s1] h = ck (kd h s1 = 12) (lt_ (sL h s1 11 s0) fun h54 => ck (kd h54 l0 = 12) (ck (kd h54 l0 = 12) (lt_ (sI h54 l0 7 ((gI h54 l0 7) + 1)) fun h55 => mX (mE mtab d) KX11_nextToken 85 [some (.ref l0), some (.int l1)] [] h55))) := by
  refine mX_ck (k' := 112) (ls' := [some (.ref l0), some (.int l1)]) (st' := []) (h' := (sL h s1 11 s0)) rfl ?_
  refine lt_gen (X := fun h54 : MH => mX (mE mtab d) KX11_nextToken 112 [some (.ref l0), some (.int l1)] [] h54) fun h54 => ?_
  refine mX_to 2 (k' := 114) (ls' := [some (.ref l0), some (.int l1)]) (st' := [.ref l0, .ref l0]) (h' := h54) rfl ?_
  refine mX_ck (k' := 115) (ls' := [some (.ref l0), some (.int l1)]) (st' := [.int (gI h54 l0 7), .ref l0]) (h' := h54) rfl ?_
  refine mX_to 2 (k' := 117) (ls' := [some (.ref l0), some (.int l1)]) (st' := [.int ((gI h54 l0 7) + 1), .ref l0]) (h' := h54) rfl ?_
  refine mX_ck (k' := 118) (ls' := [some (.ref l0), some (.int l1)]) (st' := []) (h' := (sI h54 l0 7 ((gI h54 l0 7) + 1))) rfl ?_
  refine lt_gen (X := fun h55 : MH => mX (mE mtab d) KX11_nextToken 118 [some (.ref l0), some (.int l1)] [] h55) fun h55 => ?_
  refine mX_to 1 (k' := 85) (ls' := [some (.ref l0), some (.int l1)]) (st' := []) (h' := h55) rfl ?_
  rfl
theorem D_X11_nextToken_68 (d : Nat) (h : MH) (l0 : Nat) (l1 : Int32) (s0 : Int32) (s1 : Nat) : mX (mE mtab d) KX11_nextToken 68 [some (.ref l0), some (.int l1)] [.int s0, .ref s1] h = ck (kd h s1 = 12) (lt_ (sI h s1 10 s0) fun h56 => ck (kd h56 l0 = 12) (ck (kd h56 l0 = 12) (lt_ (sI h56 l0 7 ((gI h56 l0 7) + 1)) fun h57 => mX (mE mtab d) KX11_nextToken 43 [some (.ref l0), some (.int l1)] [] h57))) := by
  refine mX_ck (k' := 69) (ls' := [some (.ref l0), some (.int l1)]) (st' := []) (h' := (sI h s1 10 s0)) rfl ?_
  refine lt_gen (X := fun h56 : MH => mX (mE mtab d) KX11_nextToken 69 [some (.ref l0), some (.int l1)] [] h56) fun h56 => ?_
  refine mX_to 2 (k' := 71) (ls' := [some (.ref l0), some (.int l1)]) (st' := [.ref l0, .ref l0]) (h' := h56) rfl ?_
  refine mX_ck (k' := 72) (ls' := [some (.ref l0), some (.int l1)]) (st' := [.int (gI h56 l0 7), .ref l0]) (h' := h56) rfl ?_
  refine mX_to 2 (k' := 74) (ls' := [some (.ref l0), some (.int l1)]) (st' := [.int ((gI h56 l0 7) + 1), .ref l0]) (h' := h56) rfl ?_
  refine mX_ck (k' := 75) (ls' := [some (.ref l0), some (.int l1)]) (st' := []) (h' := (sI h56 l0 7 ((gI h56 l0 7) + 1))) rfl ?_
  refine lt_gen (X := fun h57 : MH => mX (mE mtab d) KX11_nextToken 75 [some (.ref l0), some (.int l1)] [] h57) fun h57 => ?_
  refine mX_to 1 (k' := 43) (ls' := [some (.ref l0), some (.int l1)]) (st' := []) (h' := h57) rfl ?_
  rfl
theorem D_X11_nextToken_152 (d : Nat) (h : MH) (l0 : Nat) (l1 : Int32) (s0 : Int32) (s1 : Nat) : mX (mE mtab d) KX11_nextToken 152 [some (.ref l0), some (.int l1)] [.int s0, .ref s1] h = ck (kd h s1 = 12) (lt_ (sI h s1 9 s0) fun h58 => ck (kd h58 l0 = 12) (ck (kd h58 l0 = 12) (lt_ (sI h58 l0 7 ((gI h58 l0 7) + 1)) fun h59 => some (.int 0, h59)))) := by
  refine mX_ck (k' := 153) (ls' := [some (.ref l0), some (.int l1)]) (st' := []) (h' := (sI h s1 9 s0)) rfl ?_
  refine lt_gen (X := fun h58 : MH => mX (mE mtab d) KX11_nextToken 153 [some (.ref l0), some (.int l1)] [] h58) fun h58 => ?_
  refine mX_to 2 (k' := 155) (ls' := [some (.ref l0), some (.int l1)]) (st' := [.ref l0, .ref l0]) (h' := h58) rfl ?_
  refine mX_ck (k' := 156) (ls' := [some (.ref l0), some (.int l1)]) (st' := [.int (gI h58 l0 7), .ref l0]) (h' := h58) rfl ?_
  refine mX_to 2 (k' := 158) (ls' := [some (.ref l0), some (.int l1)]) (st' := [.int ((gI h58 l0 7) + 1), .ref l0]) (h' := h58) rfl ?_
  refine mX_ck (k' := 159) (ls' := [some (.ref l0), some (.int l1)]) (st' := []) (h' := (sI h58 l0 7 ((gI h58 l0 7) + 1))) rfl ?_
  refine lt_gen (X := fun h59 : MH => mX (mE mtab d) KX11_nextToken 159 [some (.ref l0), some (.int l1)] [] h59) fun h59 => ?_
  exact mX_ret rfl
theorem D_X11_nextToken (d : Nat) (h : MH) (a0 : Nat) : mE mtab (d + 1) 100 [.ref a0] h = ck (kd h a0 = 12) (ck (kd h a0 = 12) (cI (mE mtab d 96 [.ref a0, .int (gI h a0 7)] h) (fun x2 h1 => (if x2 = 32 then mX (mE mtab d) KX11_nextToken 12 [some (.ref a0), none] [] h1 else ck (kd h1 a0 = 12) (ck (kd h1 a0 = 12) (cI (mE mtab d 96 [.ref a0, .int (gI h1 a0 7)] h1) (fun x4 h3 => (if x4 = 10 then mX (mE mtab d) KX11_nextToken 12 [some (.ref a0), none] [] h3 else ck (kd h3 a0 = 12) (ck (kd h3 a0 = 12) (lt_ (sI h3 a0 8 (gI h3 a0 7)) fun h5 => ck (kd h5 a0 = 12) (ck (kd h5 a0 = 12) (cI (mE mtab d 96 [.ref a0, .int (gI h5 a0 7)] h5) (fun x7 h6 => (if x7 < 0 then ck (kd h6 a0 = 12) (lt_ (sI h6 a0 9 0) fun h8 => some (.int 0, h8)) else cI (mE mtab d 97 [.int x7] h6) (fun x10 h9 => (if x10 = 0 then cI (mE mtab d 98 [.int x7] h9) (fun x12 h11 => (if x12 = 0 then cI (mE mtab d 99 [.int x7] h11) (fun x14 h13 => (if x14 = 0 then mX (mE mtab d) KX11_nextToken 126 [some (.ref a0), some (.int x7)] [.int 3, .ref a0] h13 else mX (mE mtab d) KX11_nextToken 126 [some (.ref a0), some (.int x7)] [.int x7, .ref a0] h13)) else ck (kd h11 a0 = 12) (lt_ (sI h11 a0 9 2) fun h15 => ck (kd h15 a0 = 12) (lt_ (sL h15 a0 11 0) fun h16 => mX (mE mtab d) KX11_nextToken 85 [some (.ref a0), some (.int x7)] [] h16)))) else ck (kd h9 a0 = 12) (lt_ (sI h9 a0 9 1) fun h17 => ck (kd h17 a0 = 12) (lt_ (sI h17 a0 10 0) fun h18 => mX (mE mtab d) KX11_nextToken 43 [some (.ref a0), some (.int x7)] [] h18)))))))))))))))))) := by
  refine mE_eq (q := (yX11_nextToken, cX11_nextToken, 2, none, KX11_nextToken)) (C := KX11_nextToken) (ls := [some (.ref a0), none]) rfl rfl rfl rfl ?_
  refine mX_to 2 (k' := 2) (ls' := [some (.ref a0), none]) (st' := [.ref a0, .ref a0]) (h' := h) rfl ?_
  refine mX_ck (k' := 3) (ls' := [some (.ref a0), none]) (st' := [.int (gI h a0 7), .ref a0]) (h' := h) rfl ?_
  refine mX_ckc (m := mcl (mE mtab d 96 [.ref a0, .int (gI h a0 7)] h) 1 4 [some (.ref a0), none] []) rfl ?_
  refine mk_cI ?_
  intro x2 h1
  refine mX_to 1 (k' := 5) (ls' := [some (.ref a0), none]) (st' := [.int 32, .int x2]) (h' := h1) rfl ?_
  refine mX_br (t := 12) (f := 6) (ls' := [some (.ref a0), none]) (st' := []) (h' := h1) rfl ?_ ?_
  · rfl
  · refine mX_to 2 (k' := 8) (ls' := [some (.ref a0), none]) (st' := [.ref a0, .ref a0]) (h' := h1) rfl ?_
    refine mX_ck (k' := 9) (ls' := [some (.ref a0), none]) (st' := [.int (gI h1 a0 7), .ref a0]) (h' := h1) rfl ?_
    refine mX_ckc (m := mcl (mE mtab d 96 [.ref a0, .int (gI h1 a0 7)] h1) 1 10 [some (.ref a0), none] []) rfl ?_
    refine mk_cI ?_
    intro x4 h3
    refine mX_to 1 (k' := 11) (ls' := [some (.ref a0), none]) (st' := [.int 10, .int x4]) (h' := h3) rfl ?_
    refine mX_br (t := 12) (f := 19) (ls' := [some (.ref a0), none]) (st' := []) (h' := h3) rfl ?_ ?_
    · rfl
    · refine mX_to 2 (k' := 21) (ls' := [some (.ref a0), none]) (st' := [.ref a0, .ref a0]) (h' := h3) rfl ?_
      refine mX_ck (k' := 22) (ls' := [some (.ref a0), none]) (st' := [.int (gI h3 a0 7), .ref a0]) (h' := h3) rfl ?_
      refine mX_ck (k' := 23) (ls' := [some (.ref a0), none]) (st' := []) (h' := (sI h3 a0 8 (gI h3 a0 7))) rfl ?_
      refine lt_gen (X := fun h5 : MH => mX (mE mtab d) KX11_nextToken 23 [some (.ref a0), none] [] h5) fun h5 => ?_
      refine mX_to 2 (k' := 25) (ls' := [some (.ref a0), none]) (st' := [.ref a0, .ref a0]) (h' := h5) rfl ?_
      refine mX_ck (k' := 26) (ls' := [some (.ref a0), none]) (st' := [.int (gI h5 a0 7), .ref a0]) (h' := h5) rfl ?_
      refine mX_ckc (m := mcl (mE mtab d 96 [.ref a0, .int (gI h5 a0 7)] h5) 1 27 [some (.ref a0), none] []) rfl ?_
      refine mk_cI ?_
      intro x7 h6
      refine mX_to 2 (k' := 29) (ls' := [some (.ref a0), some (.int x7)]) (st' := [.int x7]) (h' := h6) rfl ?_
      refine mX_br (t := 30) (f := 34) (ls' := [some (.ref a0), some (.int x7)]) (st' := []) (h' := h6) rfl ?_ ?_
      · refine mX_to 2 (k' := 32) (ls' := [some (.ref a0), some (.int x7)]) (st' := [.int 0, .ref a0]) (h' := h6) rfl ?_
        refine mX_ck (k' := 33) (ls' := [some (.ref a0), some (.int x7)]) (st' := []) (h' := (sI h6 a0 9 0)) rfl ?_
        refine lt_gen (X := fun h8 : MH => mX (mE mtab d) KX11_nextToken 33 [some (.ref a0), some (.int x7)] [] h8) fun h8 => ?_
        refine mX_to 1 (k' := 159) (ls' := [some (.ref a0), some (.int x7)]) (st' := []) (h' := h8) rfl ?_
        exact mX_ret rfl
      · refine mX_to 1 (k' := 35) (ls' := [some (.ref a0), some (.int x7)]) (st' := [.int x7]) (h' := h6) rfl ?_
        refine mX_cI (o := mE mtab d 97 [.int x7] h6) (k' := 36) (ls' := [some (.ref a0), some (.int x7)]) (st' := []) rfl ?_
        intro x10 h9
        refine mX_br (t := 76) (f := 37) (ls' := [some (.ref a0), some (.int x7)]) (st' := []) (h' := h9) rfl ?_ ?_
        · refine mX_to 1 (k' := 77) (ls' := [some (.ref a0), some (.int x7)]) (st' := [.int x7]) (h' := h9) rfl ?_
          refine mX_cI (o := mE mtab d 98 [.int x7] h9) (k' := 78) (ls' := [some (.ref a0), some (.int x7)]) (st' := []) rfl ?_
          intro x12 h11
          refine mX_br (t := 119) (f := 79) (ls' := [some (.ref a0), some (.int x7)]) (st' := []) (h' := h11) rfl ?_ ?_
          · refine mX_to 2 (k' := 121) (ls' := [some (.ref a0), some (.int x7)]) (st' := [.int x7, .ref a0]) (h' := h11) rfl ?_
            refine mX_cI (o := mE mtab d 99 [.int x7] h11) (k' := 122) (ls' := [some (.ref a0), some (.int x7)]) (st' := [.ref a0]) rfl ?_
            intro x14 h13
            refine mX_br (t := 125) (f := 123) (ls' := [some (.ref a0), some (.int x7)]) (st' := [.ref a0]) (h' := h13) rfl ?_ ?_
            · refine mX_to 1 (k' := 126) (ls' := [some (.ref a0), some (.int x7)]) (st' := [.int 3, .ref a0]) (h' := h13) rfl ?_
              rfl
            · refine mX_to 2 (k' := 126) (ls' := [some (.ref a0), some (.int x7)]) (st' := [.int x7, .ref a0]) (h' := h13) rfl ?_
              rfl
          · refine mX_to 2 (k' := 81) (ls' := [some (.ref a0), some (.int x7)]) (st' := [.int 2, .ref a0]) (h' := h11) rfl ?_
            refine mX_ck (k' := 82) (ls' := [some (.ref a0), some (.int x7)]) (st' := []) (h' := (sI h11 a0 9 2)) rfl ?_
            refine lt_gen (X := fun h15 : MH => mX (mE mtab d) KX11_nextToken 82 [some (.ref a0), some (.int x7)] [] h15) fun h15 => ?_
            refine mX_to 2 (k' := 84) (ls' := [some (.ref a0), some (.int x7)]) (st' := [.long 0, .ref a0]) (h' := h15) rfl ?_
            refine mX_ck (k' := 85) (ls' := [some (.ref a0), some (.int x7)]) (st' := []) (h' := (sL h15 a0 11 0)) rfl ?_
            refine lt_gen (X := fun h16 : MH => mX (mE mtab d) KX11_nextToken 85 [some (.ref a0), some (.int x7)] [] h16) fun h16 => ?_
            rfl
        · refine mX_to 2 (k' := 39) (ls' := [some (.ref a0), some (.int x7)]) (st' := [.int 1, .ref a0]) (h' := h9) rfl ?_
          refine mX_ck (k' := 40) (ls' := [some (.ref a0), some (.int x7)]) (st' := []) (h' := (sI h9 a0 9 1)) rfl ?_
          refine lt_gen (X := fun h17 : MH => mX (mE mtab d) KX11_nextToken 40 [some (.ref a0), some (.int x7)] [] h17) fun h17 => ?_
          refine mX_to 2 (k' := 42) (ls' := [some (.ref a0), some (.int x7)]) (st' := [.int 0, .ref a0]) (h' := h17) rfl ?_
          refine mX_ck (k' := 43) (ls' := [some (.ref a0), some (.int x7)]) (st' := []) (h' := (sI h17 a0 10 0)) rfl ?_
          refine lt_gen (X := fun h18 : MH => mX (mE mtab d) KX11_nextToken 43 [some (.ref a0), some (.int x7)] [] h18) fun h18 => ?_
          rfl
theorem D_X11_w2 (d : Nat) (h : MH) (a0 : Int32) (a1 : Int32) : mE mtab (d + 1) 101 [.int a0, .int a1] h = some (.long ((((a0 : Int32).toInt64) <<< ((8 : Int32).toInt64 &&& 63)) ||| ((a1 : Int32).toInt64)), h) := by
  refine mE_eq (q := (yX11_w2, cX11_w2, 2, (some .long), KX11_w2)) (C := KX11_w2) (ls := [some (.int a0), some (.int a1)]) rfl rfl rfl rfl ?_
  refine mX_to 7 (k' := 7) (ls' := [some (.int a0), some (.int a1)]) (st' := [.long ((((a0 : Int32).toInt64) <<< ((8 : Int32).toInt64 &&& 63)) ||| ((a1 : Int32).toInt64))]) (h' := h) rfl ?_
  exact mX_ret rfl
theorem D_X11_w3 (d : Nat) (h : MH) (a0 : Int32) (a1 : Int32) (a2 : Int32) : mE mtab (d + 1) 102 [.int a0, .int a1, .int a2] h = cL (mE mtab d 101 [.int a0, .int a1] h) (fun x2 h1 => some (.long ((x2 <<< ((8 : Int32).toInt64 &&& 63)) ||| ((a2 : Int32).toInt64)), h1)) := by
  refine mE_eq (q := (yX11_w3, cX11_w3, 3, (some .long), KX11_w3)) (C := KX11_w3) (ls := [some (.int a0), some (.int a1), some (.int a2)]) rfl rfl rfl rfl ?_
  refine mX_to 2 (k' := 2) (ls' := [some (.int a0), some (.int a1), some (.int a2)]) (st' := [.int a1, .int a0]) (h' := h) rfl ?_
  refine mX_cL (o := mE mtab d 101 [.int a0, .int a1] h) (k' := 3) (ls' := [some (.int a0), some (.int a1), some (.int a2)]) (st' := []) rfl ?_
  intro x2 h1
  refine mX_to 5 (k' := 8) (ls' := [some (.int a0), some (.int a1), some (.int a2)]) (st' := [.long ((x2 <<< ((8 : Int32).toInt64 &&& 63)) ||| ((a2 : Int32).toInt64))]) (h' := h1) rfl ?_
  exact mX_ret rfl
theorem D_X11_w4 (d : Nat) (h : MH) (a0 : Int32) (a1 : Int32) (a2 : Int32) (a3 : Int32) : mE mtab (d + 1) 103 [.int a0, .int a1, .int a2, .int a3] h = cL (mE mtab d 102 [.int a0, .int a1, .int a2] h) (fun x2 h1 => some (.long ((x2 <<< ((8 : Int32).toInt64 &&& 63)) ||| ((a3 : Int32).toInt64)), h1)) := by
  refine mE_eq (q := (yX11_w4, cX11_w4, 4, (some .long), KX11_w4)) (C := KX11_w4) (ls := [some (.int a0), some (.int a1), some (.int a2), some (.int a3)]) rfl rfl rfl rfl ?_
  refine mX_to 3 (k' := 3) (ls' := [some (.int a0), some (.int a1), some (.int a2), some (.int a3)]) (st' := [.int a2, .int a1, .int a0]) (h' := h) rfl ?_
  refine mX_cL (o := mE mtab d 102 [.int a0, .int a1, .int a2] h) (k' := 4) (ls' := [some (.int a0), some (.int a1), some (.int a2), some (.int a3)]) (st' := []) rfl ?_
  intro x2 h1
  refine mX_to 5 (k' := 9) (ls' := [some (.int a0), some (.int a1), some (.int a2), some (.int a3)]) (st' := [.long ((x2 <<< ((8 : Int32).toInt64 &&& 63)) ||| ((a3 : Int32).toInt64))]) (h' := h1) rfl ?_
  exact mX_ret rfl
theorem D_X11_isWord (d : Nat) (h : MH) (a0 : Nat) (a1 : Int64) : mE mtab (d + 1) 104 [.ref a0, .long a1] h = ck (kd h a0 = 12) ((if (gI h a0 9) = 2 then ck (kd h a0 = 12) ((if (lg_cmp (gL h a0 11) a1) = 0 then some (.int 1, h) else some (.int 0, h))) else some (.int 0, h))) := by
  refine mE_eq (q := (yX11_isWord, cX11_isWord, 3, (some .boolean), KX11_isWord)) (C := KX11_isWord) (ls := [some (.ref a0), some (.long a1), none]) rfl rfl rfl rfl ?_
  refine mX_to 1 (k' := 1) (ls' := [some (.ref a0), some (.long a1), none]) (st' := [.ref a0]) (h' := h) rfl ?_
  refine mX_ck (k' := 2) (ls' := [some (.ref a0), some (.long a1), none]) (st' := [.int (gI h a0 9)]) (h' := h) rfl ?_
  refine mX_to 1 (k' := 3) (ls' := [some (.ref a0), some (.long a1), none]) (st' := [.int 2, .int (gI h a0 9)]) (h' := h) rfl ?_
  refine mX_br (t := 4) (f := 11) (ls' := [some (.ref a0), some (.long a1), none]) (st' := []) (h' := h) rfl ?_ ?_
  · refine mX_to 1 (k' := 5) (ls' := [some (.ref a0), some (.long a1), none]) (st' := [.ref a0]) (h' := h) rfl ?_
    refine mX_ck (k' := 6) (ls' := [some (.ref a0), some (.long a1), none]) (st' := [.long (gL h a0 11)]) (h' := h) rfl ?_
    refine mX_to 2 (k' := 8) (ls' := [some (.ref a0), some (.long a1), none]) (st' := [.int (lg_cmp (gL h a0 11) a1)]) (h' := h) rfl ?_
    refine mX_br (t := 9) (f := 11) (ls' := [some (.ref a0), some (.long a1), none]) (st' := []) (h' := h) rfl ?_ ?_
    · refine mX_to 2 (k' := 12) (ls' := [some (.ref a0), some (.long a1), none]) (st' := [.int 1]) (h' := h) rfl ?_
      exact mX_retb (by decide) rfl
    · refine mX_to 1 (k' := 12) (ls' := [some (.ref a0), some (.long a1), none]) (st' := [.int 0]) (h' := h) rfl ?_
      exact mX_retb (by decide) rfl
  · refine mX_to 1 (k' := 12) (ls' := [some (.ref a0), some (.long a1), none]) (st' := [.int 0]) (h' := h) rfl ?_
    exact mX_retb (by decide) rfl
theorem D_X11_w5 (d : Nat) (h : MH) (a0 : Int32) (a1 : Int32) (a2 : Int32) (a3 : Int32) (a4 : Int32) : mE mtab (d + 1) 105 [.int a0, .int a1, .int a2, .int a3, .int a4] h = cL (mE mtab d 103 [.int a0, .int a1, .int a2, .int a3] h) (fun x2 h1 => some (.long ((x2 <<< ((8 : Int32).toInt64 &&& 63)) ||| ((a4 : Int32).toInt64)), h1)) := by
  refine mE_eq (q := (yX11_w5, cX11_w5, 5, (some .long), KX11_w5)) (C := KX11_w5) (ls := [some (.int a0), some (.int a1), some (.int a2), some (.int a3), some (.int a4)]) rfl rfl rfl rfl ?_
  refine mX_to 4 (k' := 4) (ls' := [some (.int a0), some (.int a1), some (.int a2), some (.int a3), some (.int a4)]) (st' := [.int a3, .int a2, .int a1, .int a0]) (h' := h) rfl ?_
  refine mX_cL (o := mE mtab d 103 [.int a0, .int a1, .int a2, .int a3] h) (k' := 5) (ls' := [some (.int a0), some (.int a1), some (.int a2), some (.int a3), some (.int a4)]) (st' := []) rfl ?_
  intro x2 h1
  refine mX_to 5 (k' := 10) (ls' := [some (.int a0), some (.int a1), some (.int a2), some (.int a3), some (.int a4)]) (st' := [.long ((x2 <<< ((8 : Int32).toInt64 &&& 63)) ||| ((a4 : Int32).toInt64))]) (h' := h1) rfl ?_
  exact mX_ret rfl
theorem D_X11_w6 (d : Nat) (h : MH) (a0 : Int32) (a1 : Int32) (a2 : Int32) (a3 : Int32) (a4 : Int32) (a5 : Int32) : mE mtab (d + 1) 106 [.int a0, .int a1, .int a2, .int a3, .int a4, .int a5] h = cL (mE mtab d 105 [.int a0, .int a1, .int a2, .int a3, .int a4] h) (fun x2 h1 => some (.long ((x2 <<< ((8 : Int32).toInt64 &&& 63)) ||| ((a5 : Int32).toInt64)), h1)) := by
  refine mE_eq (q := (yX11_w6, cX11_w6, 6, (some .long), KX11_w6)) (C := KX11_w6) (ls := [some (.int a0), some (.int a1), some (.int a2), some (.int a3), some (.int a4), some (.int a5)]) rfl rfl rfl rfl ?_
  refine mX_to 5 (k' := 5) (ls' := [some (.int a0), some (.int a1), some (.int a2), some (.int a3), some (.int a4), some (.int a5)]) (st' := [.int a4, .int a3, .int a2, .int a1, .int a0]) (h' := h) rfl ?_
  refine mX_cL (o := mE mtab d 105 [.int a0, .int a1, .int a2, .int a3, .int a4] h) (k' := 6) (ls' := [some (.int a0), some (.int a1), some (.int a2), some (.int a3), some (.int a4), some (.int a5)]) (st' := []) rfl ?_
  intro x2 h1
  refine mX_to 5 (k' := 11) (ls' := [some (.int a0), some (.int a1), some (.int a2), some (.int a3), some (.int a4), some (.int a5)]) (st' := [.long ((x2 <<< ((8 : Int32).toInt64 &&& 63)) ||| ((a5 : Int32).toInt64))]) (h' := h1) rfl ?_
  exact mX_ret rfl
theorem D_X11_sortOf (d : Nat) (h : MH) (a0 : Nat) : mE mtab (d + 1) 107 [.ref a0] h = cL (mE mtab d 103 [.int 116, .int 105, .int 112, .int 115] h) (fun x2 h1 => ck (kd h1 a0 = 12) (cI (mE mtab d 104 [.ref a0, .long x2] h1) (fun x4 h3 => (if x4 = 0 then cL (mE mtab d 106 [.int 115, .int 108, .int 105, .int 100, .int 101, .int 115] h3) (fun x6 h5 => ck (kd h5 a0 = 12) (cI (mE mtab d 104 [.ref a0, .long x6] h5) (fun x8 h7 => (if x8 = 0 then cL (mE mtab d 106 [.int 112, .int 101, .int 114, .int 115, .int 111, .int 110] h7) (fun x10 h9 => ck (kd h9 a0 = 12) (cI (mE mtab d 104 [.ref a0, .long x10] h9) (fun x12 h11 => (if x12 = 0 then cL (mE mtab d 103 [.int 103, .int 111, .int 97, .int 108] h11) (fun x14 h13 => ck (kd h13 a0 = 12) (cI (mE mtab d 104 [.ref a0, .long x14] h13) (fun x16 h15 => (if x16 = 0 then cL (mE mtab d 103 [.int 108, .int 101, .int 102, .int 116] h15) (fun x18 h17 => ck (kd h17 a0 = 12) (cI (mE mtab d 104 [.ref a0, .long x18] h17) (fun x20 h19 => (if x20 = 0 then cL (mE mtab d 105 [.int 114, .int 105, .int 103, .int 104, .int 116] h19) (fun x22 h21 => ck (kd h21 a0 = 12) (cI (mE mtab d 104 [.ref a0, .long x22] h21) (fun x24 h23 => (if x24 = 0 then cL (mE mtab d 106 [.int 115, .int 104, .int 111, .int 118, .int 101, .int 108] h23) (fun x26 h25 => ck (kd h25 a0 = 12) (cI (mE mtab d 104 [.ref a0, .long x26] h25) (fun x28 h27 => (if x28 = 0 then cL (mE mtab d 103 [.int 104, .int 111, .int 117, .int 114] h27) (fun x30 h29 => ck (kd h29 a0 = 12) (cI (mE mtab d 104 [.ref a0, .long x30] h29) (fun x32 h31 => (if x32 = 0 then some (.int (-1), h31) else some (.int 7, h31))))) else some (.int 6, h27))))) else some (.int 5, h23))))) else some (.int 4, h19))))) else some (.int 3, h15))))) else some (.int 2, h11))))) else some (.int 1, h7))))) else some (.int 0, h3))))) := by
  refine mE_eq (q := (yX11_sortOf, cX11_sortOf, 1, (some .int), KX11_sortOf)) (C := KX11_sortOf) (ls := [some (.ref a0)]) rfl rfl rfl rfl ?_
  refine mX_to 5 (k' := 5) (ls' := [some (.ref a0)]) (st' := [.int 115, .int 112, .int 105, .int 116, .ref a0]) (h' := h) rfl ?_
  refine mX_cL (o := mE mtab d 103 [.int 116, .int 105, .int 112, .int 115] h) (k' := 6) (ls' := [some (.ref a0)]) (st' := [.ref a0]) rfl ?_
  intro x2 h1
  refine mX_ckc (m := mcl (mE mtab d 104 [.ref a0, .long x2] h1) 1 7 [some (.ref a0)] []) rfl ?_
  refine mk_cI ?_
  intro x4 h3
  refine mX_br (t := 10) (f := 8) (ls' := [some (.ref a0)]) (st' := []) (h' := h3) rfl ?_ ?_
  · refine mX_to 7 (k' := 17) (ls' := [some (.ref a0)]) (st' := [.int 115, .int 101, .int 100, .int 105, .int 108, .int 115, .ref a0]) (h' := h3) rfl ?_
    refine mX_cL (o := mE mtab d 106 [.int 115, .int 108, .int 105, .int 100, .int 101, .int 115] h3) (k' := 18) (ls' := [some (.ref a0)]) (st' := [.ref a0]) rfl ?_
    intro x6 h5
    refine mX_ckc (m := mcl (mE mtab d 104 [.ref a0, .long x6] h5) 1 19 [some (.ref a0)] []) rfl ?_
    refine mk_cI ?_
    intro x8 h7
    refine mX_br (t := 22) (f := 20) (ls' := [some (.ref a0)]) (st' := []) (h' := h7) rfl ?_ ?_
    · refine mX_to 7 (k' := 29) (ls' := [some (.ref a0)]) (st' := [.int 110, .int 111, .int 115, .int 114, .int 101, .int 112, .ref a0]) (h' := h7) rfl ?_
      refine mX_cL (o := mE mtab d 106 [.int 112, .int 101, .int 114, .int 115, .int 111, .int 110] h7) (k' := 30) (ls' := [some (.ref a0)]) (st' := [.ref a0]) rfl ?_
      intro x10 h9
      refine mX_ckc (m := mcl (mE mtab d 104 [.ref a0, .long x10] h9) 1 31 [some (.ref a0)] []) rfl ?_
      refine mk_cI ?_
      intro x12 h11
      refine mX_br (t := 34) (f := 32) (ls' := [some (.ref a0)]) (st' := []) (h' := h11) rfl ?_ ?_
      · refine mX_to 5 (k' := 39) (ls' := [some (.ref a0)]) (st' := [.int 108, .int 97, .int 111, .int 103, .ref a0]) (h' := h11) rfl ?_
        refine mX_cL (o := mE mtab d 103 [.int 103, .int 111, .int 97, .int 108] h11) (k' := 40) (ls' := [some (.ref a0)]) (st' := [.ref a0]) rfl ?_
        intro x14 h13
        refine mX_ckc (m := mcl (mE mtab d 104 [.ref a0, .long x14] h13) 1 41 [some (.ref a0)] []) rfl ?_
        refine mk_cI ?_
        intro x16 h15
        refine mX_br (t := 44) (f := 42) (ls' := [some (.ref a0)]) (st' := []) (h' := h15) rfl ?_ ?_
        · refine mX_to 5 (k' := 49) (ls' := [some (.ref a0)]) (st' := [.int 116, .int 102, .int 101, .int 108, .ref a0]) (h' := h15) rfl ?_
          refine mX_cL (o := mE mtab d 103 [.int 108, .int 101, .int 102, .int 116] h15) (k' := 50) (ls' := [some (.ref a0)]) (st' := [.ref a0]) rfl ?_
          intro x18 h17
          refine mX_ckc (m := mcl (mE mtab d 104 [.ref a0, .long x18] h17) 1 51 [some (.ref a0)] []) rfl ?_
          refine mk_cI ?_
          intro x20 h19
          refine mX_br (t := 54) (f := 52) (ls' := [some (.ref a0)]) (st' := []) (h' := h19) rfl ?_ ?_
          · refine mX_to 6 (k' := 60) (ls' := [some (.ref a0)]) (st' := [.int 116, .int 104, .int 103, .int 105, .int 114, .ref a0]) (h' := h19) rfl ?_
            refine mX_cL (o := mE mtab d 105 [.int 114, .int 105, .int 103, .int 104, .int 116] h19) (k' := 61) (ls' := [some (.ref a0)]) (st' := [.ref a0]) rfl ?_
            intro x22 h21
            refine mX_ckc (m := mcl (mE mtab d 104 [.ref a0, .long x22] h21) 1 62 [some (.ref a0)] []) rfl ?_
            refine mk_cI ?_
            intro x24 h23
            refine mX_br (t := 65) (f := 63) (ls' := [some (.ref a0)]) (st' := []) (h' := h23) rfl ?_ ?_
            · refine mX_to 7 (k' := 72) (ls' := [some (.ref a0)]) (st' := [.int 108, .int 101, .int 118, .int 111, .int 104, .int 115, .ref a0]) (h' := h23) rfl ?_
              refine mX_cL (o := mE mtab d 106 [.int 115, .int 104, .int 111, .int 118, .int 101, .int 108] h23) (k' := 73) (ls' := [some (.ref a0)]) (st' := [.ref a0]) rfl ?_
              intro x26 h25
              refine mX_ckc (m := mcl (mE mtab d 104 [.ref a0, .long x26] h25) 1 74 [some (.ref a0)] []) rfl ?_
              refine mk_cI ?_
              intro x28 h27
              refine mX_br (t := 77) (f := 75) (ls' := [some (.ref a0)]) (st' := []) (h' := h27) rfl ?_ ?_
              · refine mX_to 5 (k' := 82) (ls' := [some (.ref a0)]) (st' := [.int 114, .int 117, .int 111, .int 104, .ref a0]) (h' := h27) rfl ?_
                refine mX_cL (o := mE mtab d 103 [.int 104, .int 111, .int 117, .int 114] h27) (k' := 83) (ls' := [some (.ref a0)]) (st' := [.ref a0]) rfl ?_
                intro x30 h29
                refine mX_ckc (m := mcl (mE mtab d 104 [.ref a0, .long x30] h29) 1 84 [some (.ref a0)] []) rfl ?_
                refine mk_cI ?_
                intro x32 h31
                refine mX_br (t := 87) (f := 85) (ls' := [some (.ref a0)]) (st' := []) (h' := h31) rfl ?_ ?_
                · refine mX_to 1 (k' := 88) (ls' := [some (.ref a0)]) (st' := [.int (-1)]) (h' := h31) rfl ?_
                  exact mX_reti rfl
                · refine mX_to 2 (k' := 88) (ls' := [some (.ref a0)]) (st' := [.int 7]) (h' := h31) rfl ?_
                  exact mX_reti rfl
              · refine mX_to 2 (k' := 88) (ls' := [some (.ref a0)]) (st' := [.int 6]) (h' := h27) rfl ?_
                exact mX_reti rfl
            · refine mX_to 1 (k' := 64) (ls' := [some (.ref a0)]) (st' := [.int 5]) (h' := h23) rfl ?_
              exact mX_reti rfl
          · refine mX_to 1 (k' := 53) (ls' := [some (.ref a0)]) (st' := [.int 4]) (h' := h19) rfl ?_
            exact mX_reti rfl
        · refine mX_to 1 (k' := 43) (ls' := [some (.ref a0)]) (st' := [.int 3]) (h' := h15) rfl ?_
          exact mX_reti rfl
      · refine mX_to 1 (k' := 33) (ls' := [some (.ref a0)]) (st' := [.int 2]) (h' := h11) rfl ?_
        exact mX_reti rfl
    · refine mX_to 1 (k' := 21) (ls' := [some (.ref a0)]) (st' := [.int 1]) (h' := h7) rfl ?_
      exact mX_reti rfl
  · refine mX_to 1 (k' := 9) (ls' := [some (.ref a0)]) (st' := [.int 0]) (h' := h3) rfl ?_
    exact mX_reti rfl
theorem D_X11_has (d : Nat) (h : MH) (a0 : Int32) (a1 : Int32) : mE mtab (d + 1) 108 [.int a0, .int a1] h = (if ((a0 >>> (a1 &&& 31)) &&& 1) = 1 then some (.int 1, h) else some (.int 0, h)) := by
  refine mE_eq (q := (yX11_has, cX11_has, 2, (some .boolean), KX11_has)) (C := KX11_has) (ls := [some (.int a0), some (.int a1)]) rfl rfl rfl rfl ?_
  refine mX_to 6 (k' := 6) (ls' := [some (.int a0), some (.int a1)]) (st' := [.int 1, .int ((a0 >>> (a1 &&& 31)) &&& 1)]) (h' := h) rfl ?_
  refine mX_br (t := 7) (f := 9) (ls' := [some (.int a0), some (.int a1)]) (st' := []) (h' := h) rfl ?_ ?_
  · refine mX_to 2 (k' := 10) (ls' := [some (.int a0), some (.int a1)]) (st' := [.int 1]) (h' := h) rfl ?_
    exact mX_retb (by decide) rfl
  · refine mX_to 1 (k' := 10) (ls' := [some (.int a0), some (.int a1)]) (st' := [.int 0]) (h' := h) rfl ?_
    exact mX_retb (by decide) rfl
theorem D_X11_figure (d : Nat) (h : MH) (a0 : Nat) (a1 : Int32) (a2 : Int32) (a3 : Int32) : mE mtab (d + 1) 109 [.ref a0, .int a1, .int a2, .int a3] h = ck (kd h a0 = 12) ((if (gI h a0 9) = 1 then ck (kd h a0 = 12) (cI (mE mtab d 14 [.int (gI h a0 10), .int a2, .int a3] h) (fun x2 h1 => (if x2 = 0 then some (.int 2, h1) else ck (kd h1 a0 = 12) (ck (kd h1 a0 = 12) (ck (kd h1 (gR h1 a0 2) = 20 ∧ ib a1 (ln h1 (gR h1 a0 2))) (lt_ (sI h1 (gR h1 a0 2) (ix a1) (gI h1 a0 10)) fun h3 => ck (kd h3 a0 = 12) (cV (mE mtab d 100 [.ref a0] h3) (fun h4 => some (.int 0, h4))))))))) else some (.int 1, h))) := by
  refine mE_eq (q := (yX11_figure, cX11_figure, 4, (some .int), KX11_figure)) (C := KX11_figure) (ls := [some (.ref a0), some (.int a1), some (.int a2), some (.int a3)]) rfl rfl rfl rfl ?_
  refine mX_to 1 (k' := 1) (ls' := [some (.ref a0), some (.int a1), some (.int a2), some (.int a3)]) (st' := [.ref a0]) (h' := h) rfl ?_
  refine mX_ck (k' := 2) (ls' := [some (.ref a0), some (.int a1), some (.int a2), some (.int a3)]) (st' := [.int (gI h a0 9)]) (h' := h) rfl ?_
  refine mX_to 1 (k' := 3) (ls' := [some (.ref a0), some (.int a1), some (.int a2), some (.int a3)]) (st' := [.int 1, .int (gI h a0 9)]) (h' := h) rfl ?_
  refine mX_br (t := 6) (f := 4) (ls' := [some (.ref a0), some (.int a1), some (.int a2), some (.int a3)]) (st' := []) (h' := h) rfl ?_ ?_
  · refine mX_to 1 (k' := 7) (ls' := [some (.ref a0), some (.int a1), some (.int a2), some (.int a3)]) (st' := [.ref a0]) (h' := h) rfl ?_
    refine mX_ck (k' := 8) (ls' := [some (.ref a0), some (.int a1), some (.int a2), some (.int a3)]) (st' := [.int (gI h a0 10)]) (h' := h) rfl ?_
    refine mX_to 2 (k' := 10) (ls' := [some (.ref a0), some (.int a1), some (.int a2), some (.int a3)]) (st' := [.int a3, .int a2, .int (gI h a0 10)]) (h' := h) rfl ?_
    refine mX_cI (o := mE mtab d 14 [.int (gI h a0 10), .int a2, .int a3] h) (k' := 11) (ls' := [some (.ref a0), some (.int a1), some (.int a2), some (.int a3)]) (st' := []) rfl ?_
    intro x2 h1
    refine mX_br (t := 12) (f := 14) (ls' := [some (.ref a0), some (.int a1), some (.int a2), some (.int a3)]) (st' := []) (h' := h1) rfl ?_ ?_
    · refine mX_to 1 (k' := 13) (ls' := [some (.ref a0), some (.int a1), some (.int a2), some (.int a3)]) (st' := [.int 2]) (h' := h1) rfl ?_
      exact mX_reti rfl
    · refine mX_to 1 (k' := 15) (ls' := [some (.ref a0), some (.int a1), some (.int a2), some (.int a3)]) (st' := [.ref a0]) (h' := h1) rfl ?_
      refine mX_ck (k' := 16) (ls' := [some (.ref a0), some (.int a1), some (.int a2), some (.int a3)]) (st' := [.ref (gR h1 a0 2)]) (h' := h1) rfl ?_
      refine mX_to 2 (k' := 18) (ls' := [some (.ref a0), some (.int a1), some (.int a2), some (.int a3)]) (st' := [.ref a0, .int a1, .ref (gR h1 a0 2)]) (h' := h1) rfl ?_
      refine mX_ck (k' := 19) (ls' := [some (.ref a0), some (.int a1), some (.int a2), some (.int a3)]) (st' := [.int (gI h1 a0 10), .int a1, .ref (gR h1 a0 2)]) (h' := h1) rfl ?_
      refine mX_ck (k' := 20) (ls' := [some (.ref a0), some (.int a1), some (.int a2), some (.int a3)]) (st' := []) (h' := (sI h1 (gR h1 a0 2) (ix a1) (gI h1 a0 10))) rfl ?_
      refine lt_gen (X := fun h3 : MH => mX (mE mtab d) KX11_figure 20 [some (.ref a0), some (.int a1), some (.int a2), some (.int a3)] [] h3) fun h3 => ?_
      refine mX_to 1 (k' := 21) (ls' := [some (.ref a0), some (.int a1), some (.int a2), some (.int a3)]) (st' := [.ref a0]) (h' := h3) rfl ?_
      refine mX_ckc (m := mcl (mE mtab d 100 [.ref a0] h3) 0 22 [some (.ref a0), some (.int a1), some (.int a2), some (.int a3)] []) rfl ?_
      refine mk_cV ?_
      intro h4
      refine mX_to 1 (k' := 23) (ls' := [some (.ref a0), some (.int a1), some (.int a2), some (.int a3)]) (st' := [.int 0]) (h' := h4) rfl ?_
      exact mX_reti rfl
  · refine mX_to 1 (k' := 5) (ls' := [some (.ref a0), some (.int a1), some (.int a2), some (.int a3)]) (st' := [.int 1]) (h' := h) rfl ?_
    exact mX_reti rfl
theorem D_X11_atPlace (d : Nat) (h : MH) (a0 : Nat) (a1 : Int32) (a2 : Int32) (a3 : Int32) : mE mtab (d + 1) 110 [.ref a0, .int a1, .int a2, .int a3] h = ck (kd h a0 = 12) (cI (mE mtab d 109 [.ref a0, .int (a1 + 1), .int a2, .int a3] h) (fun x2 h1 => (if x2 = 0 then cL (mE mtab d 101 [.int 97, .int 116] h1) (fun x4 h3 => ck (kd h3 a0 = 12) (cI (mE mtab d 104 [.ref a0, .long x4] h3) (fun x6 h5 => (if x6 = 0 then some (.int 1, h5) else ck (kd h5 a0 = 12) (cV (mE mtab d 100 [.ref a0] h5) (fun h7 => ck (kd h7 a0 = 12) (cI (mE mtab d 109 [.ref a0, .int (a1 + 2), .int 0, .int 8] h7) (fun x9 h8 => some (.int x9, h8))))))))) else some (.int x2, h1)))) := by
  refine mE_eq (q := (yX11_atPlace, cX11_atPlace, 5, (some .int), KX11_atPlace)) (C := KX11_atPlace) (ls := [some (.ref a0), some (.int a1), some (.int a2), some (.int a3), none]) rfl rfl rfl rfl ?_
  refine mX_to 6 (k' := 6) (ls' := [some (.ref a0), some (.int a1), some (.int a2), some (.int a3), none]) (st' := [.int a3, .int a2, .int (a1 + 1), .ref a0]) (h' := h) rfl ?_
  refine mX_ckc (m := mcl (mE mtab d 109 [.ref a0, .int (a1 + 1), .int a2, .int a3] h) 1 7 [some (.ref a0), some (.int a1), some (.int a2), some (.int a3), none] []) rfl ?_
  refine mk_cI ?_
  intro x2 h1
  refine mX_to 2 (k' := 9) (ls' := [some (.ref a0), some (.int a1), some (.int a2), some (.int a3), some (.int x2)]) (st' := [.int x2]) (h' := h1) rfl ?_
  refine mX_br (t := 12) (f := 10) (ls' := [some (.ref a0), some (.int a1), some (.int a2), some (.int a3), some (.int x2)]) (st' := []) (h' := h1) rfl ?_ ?_
  · refine mX_to 3 (k' := 15) (ls' := [some (.ref a0), some (.int a1), some (.int a2), some (.int a3), some (.int x2)]) (st' := [.int 116, .int 97, .ref a0]) (h' := h1) rfl ?_
    refine mX_cL (o := mE mtab d 101 [.int 97, .int 116] h1) (k' := 16) (ls' := [some (.ref a0), some (.int a1), some (.int a2), some (.int a3), some (.int x2)]) (st' := [.ref a0]) rfl ?_
    intro x4 h3
    refine mX_ckc (m := mcl (mE mtab d 104 [.ref a0, .long x4] h3) 1 17 [some (.ref a0), some (.int a1), some (.int a2), some (.int a3), some (.int x2)] []) rfl ?_
    refine mk_cI ?_
    intro x6 h5
    refine mX_br (t := 18) (f := 20) (ls' := [some (.ref a0), some (.int a1), some (.int a2), some (.int a3), some (.int x2)]) (st' := []) (h' := h5) rfl ?_ ?_
    · refine mX_to 1 (k' := 19) (ls' := [some (.ref a0), some (.int a1), some (.int a2), some (.int a3), some (.int x2)]) (st' := [.int 1]) (h' := h5) rfl ?_
      exact mX_reti rfl
    · refine mX_to 1 (k' := 21) (ls' := [some (.ref a0), some (.int a1), some (.int a2), some (.int a3), some (.int x2)]) (st' := [.ref a0]) (h' := h5) rfl ?_
      refine mX_ckc (m := mcl (mE mtab d 100 [.ref a0] h5) 0 22 [some (.ref a0), some (.int a1), some (.int a2), some (.int a3), some (.int x2)] []) rfl ?_
      refine mk_cV ?_
      intro h7
      refine mX_to 6 (k' := 28) (ls' := [some (.ref a0), some (.int a1), some (.int a2), some (.int a3), some (.int x2)]) (st' := [.int 8, .int 0, .int (a1 + 2), .ref a0]) (h' := h7) rfl ?_
      refine mX_ckc (m := mcl (mE mtab d 109 [.ref a0, .int (a1 + 2), .int 0, .int 8] h7) 1 29 [some (.ref a0), some (.int a1), some (.int a2), some (.int a3), some (.int x2)] []) rfl ?_
      refine mk_cI ?_
      intro x9 h8
      exact mX_reti rfl
  · refine mX_to 1 (k' := 11) (ls' := [some (.ref a0), some (.int a1), some (.int a2), some (.int a3), some (.int x2)]) (st' := [.int x2]) (h' := h1) rfl ?_
    exact mX_reti rfl
theorem D_X11_openAt_5 (d : Nat) (h : MH) (l0 : Nat) (l1 : Int32) : mX (mE mtab d) KX11_openAt 5 [some (.ref l0), some (.int l1)] [] h = (if l1 < 0 then some (.int l1, h) else ck (kd h l0 = 12) (ck ((kd h (gR h l0 15) = 20 ∨ kd h (gR h l0 15) = 24) ∧ ib l1 (ln h (gR h l0 15))) ((if (gI h (gR h l0 15) (ix l1)) < 40 then mX (mE mtab d) KX11_openAt 5 [some (.ref l0), some (.int (l1 + (-1)))] [] h else some (.int l1, h))))) := by
  refine mX_to 1 (k' := 6) (ls' := [some (.ref l0), some (.int l1)]) (st' := [.int l1]) (h' := h) rfl ?_
  refine mX_br (t := 15) (f := 7) (ls' := [some (.ref l0), some (.int l1)]) (st' := []) (h' := h) rfl ?_ ?_
  · refine mX_to 1 (k' := 16) (ls' := [some (.ref l0), some (.int l1)]) (st' := [.int l1]) (h' := h) rfl ?_
    exact mX_reti rfl
  · refine mX_to 1 (k' := 8) (ls' := [some (.ref l0), some (.int l1)]) (st' := [.ref l0]) (h' := h) rfl ?_
    refine mX_ck (k' := 9) (ls' := [some (.ref l0), some (.int l1)]) (st' := [.ref (gR h l0 15)]) (h' := h) rfl ?_
    refine mX_to 1 (k' := 10) (ls' := [some (.ref l0), some (.int l1)]) (st' := [.int l1, .ref (gR h l0 15)]) (h' := h) rfl ?_
    refine mX_ck (k' := 11) (ls' := [some (.ref l0), some (.int l1)]) (st' := [.int (gI h (gR h l0 15) (ix l1))]) (h' := h) rfl ?_
    refine mX_to 1 (k' := 12) (ls' := [some (.ref l0), some (.int l1)]) (st' := [.int 40, .int (gI h (gR h l0 15) (ix l1))]) (h' := h) rfl ?_
    refine mX_br (t := 13) (f := 15) (ls' := [some (.ref l0), some (.int l1)]) (st' := []) (h' := h) rfl ?_ ?_
    · refine mX_to 2 (k' := 5) (ls' := [some (.ref l0), some (.int (l1 + (-1)))]) (st' := []) (h' := h) rfl ?_
      rfl
    · refine mX_to 1 (k' := 16) (ls' := [some (.ref l0), some (.int l1)]) (st' := [.int l1]) (h' := h) rfl ?_
      exact mX_reti rfl
theorem D_X11_openAt (d : Nat) (h : MH) (a0 : Nat) : mE mtab (d + 1) 111 [.ref a0] h = ck (kd h a0 = 12) (lt_ ((gI h a0 16) - 1) fun v1 => mX (mE mtab d) KX11_openAt 5 [some (.ref a0), some (.int v1)] [] h) := by
  refine mE_eq (q := (yX11_openAt, cX11_openAt, 2, (some .int), KX11_openAt)) (C := KX11_openAt) (ls := [some (.ref a0), none]) rfl rfl rfl rfl ?_
  refine mX_to 1 (k' := 1) (ls' := [some (.ref a0), none]) (st' := [.ref a0]) (h' := h) rfl ?_
  refine mX_ck (k' := 2) (ls' := [some (.ref a0), none]) (st' := [.int (gI h a0 16)]) (h' := h) rfl ?_
  refine mX_to 2 (k' := 4) (ls' := [some (.ref a0), none]) (st' := [.int ((gI h a0 16) - 1)]) (h' := h) rfl ?_
  refine lt_gen (X := fun v1 : Int32 => mX (mE mtab d) KX11_openAt 4 [some (.ref a0), none] [.int v1] h) fun v1 => ?_
  refine mX_to 1 (k' := 5) (ls' := [some (.ref a0), some (.int v1)]) (st' := []) (h' := h) rfl ?_
  rfl
