/-! EQUATIONS OF THE METHODS (written by wip/gen/dgen.py) -/
theorem D_X11_opened (d : Nat) (h : MH) (a0 : Nat) (a1 : Int32) : mE mtab (d + 1) 122 [.ref a0, .int a1] h = ck (kd h a0 = 12) ((if (gI h a0 17) = 8 then some (.int 3, h) else ck (kd h a0 = 12) (ck (kd h a0 = 12) (lt_ (sI h a0 17 ((gI h a0 17) + 1)) fun h1 => ck (kd h1 a0 = 12) (ck (kd h1 a0 = 12) (ck (kd h1 (gR h1 a0 15) = 20 ∧ ib (gI h1 a0 16) (ln h1 (gR h1 a0 15))) (lt_ (sI h1 (gR h1 a0 15) (ix (gI h1 a0 16)) a1) fun h2 => ck (kd h2 a0 = 12) (ck (kd h2 a0 = 12) (lt_ (sI h2 a0 16 ((gI h2 a0 16) + 1)) fun h3 => ck (kd h3 a0 = 12) (cV (mE mtab d 100 [.ref a0] h3) (fun h4 => some (.int 0, h4)))))))))))) := by
  refine mE_eq (q := (yX11_opened, cX11_opened, 2, (some .int), KX11_opened)) (C := KX11_opened) (ls := [some (.ref a0), some (.int a1)]) rfl rfl rfl rfl ?_
  refine mX_to 1 (k' := 1) (ls' := [some (.ref a0), some (.int a1)]) (st' := [.ref a0]) (h' := h) rfl ?_
  refine mX_ck (k' := 2) (ls' := [some (.ref a0), some (.int a1)]) (st' := [.int (gI h a0 17)]) (h' := h) rfl ?_
  refine mX_to 1 (k' := 3) (ls' := [some (.ref a0), some (.int a1)]) (st' := [.int 8, .int (gI h a0 17)]) (h' := h) rfl ?_
  refine mX_br (t := 4) (f := 6) (ls' := [some (.ref a0), some (.int a1)]) (st' := []) (h' := h) rfl ?_ ?_
  · refine mX_to 1 (k' := 5) (ls' := [some (.ref a0), some (.int a1)]) (st' := [.int 3]) (h' := h) rfl ?_
    exact mX_reti rfl
  · refine mX_to 2 (k' := 8) (ls' := [some (.ref a0), some (.int a1)]) (st' := [.ref a0, .ref a0]) (h' := h) rfl ?_
    refine mX_ck (k' := 9) (ls' := [some (.ref a0), some (.int a1)]) (st' := [.int (gI h a0 17), .ref a0]) (h' := h) rfl ?_
    refine mX_to 2 (k' := 11) (ls' := [some (.ref a0), some (.int a1)]) (st' := [.int ((gI h a0 17) + 1), .ref a0]) (h' := h) rfl ?_
    refine mX_ck (k' := 12) (ls' := [some (.ref a0), some (.int a1)]) (st' := []) (h' := (sI h a0 17 ((gI h a0 17) + 1))) rfl ?_
    refine lt_gen (X := fun h1 : MH => mX (mE mtab d) KX11_opened 12 [some (.ref a0), some (.int a1)] [] h1) fun h1 => ?_
    refine mX_to 1 (k' := 13) (ls' := [some (.ref a0), some (.int a1)]) (st' := [.ref a0]) (h' := h1) rfl ?_
    refine mX_ck (k' := 14) (ls' := [some (.ref a0), some (.int a1)]) (st' := [.ref (gR h1 a0 15)]) (h' := h1) rfl ?_
    refine mX_to 1 (k' := 15) (ls' := [some (.ref a0), some (.int a1)]) (st' := [.ref a0, .ref (gR h1 a0 15)]) (h' := h1) rfl ?_
    refine mX_ck (k' := 16) (ls' := [some (.ref a0), some (.int a1)]) (st' := [.int (gI h1 a0 16), .ref (gR h1 a0 15)]) (h' := h1) rfl ?_
    refine mX_to 1 (k' := 17) (ls' := [some (.ref a0), some (.int a1)]) (st' := [.int a1, .int (gI h1 a0 16), .ref (gR h1 a0 15)]) (h' := h1) rfl ?_
    refine mX_ck (k' := 18) (ls' := [some (.ref a0), some (.int a1)]) (st' := []) (h' := (sI h1 (gR h1 a0 15) (ix (gI h1 a0 16)) a1)) rfl ?_
    refine lt_gen (X := fun h2 : MH => mX (mE mtab d) KX11_opened 18 [some (.ref a0), some (.int a1)] [] h2) fun h2 => ?_
    refine mX_to 2 (k' := 20) (ls' := [some (.ref a0), some (.int a1)]) (st' := [.ref a0, .ref a0]) (h' := h2) rfl ?_
    refine mX_ck (k' := 21) (ls' := [some (.ref a0), some (.int a1)]) (st' := [.int (gI h2 a0 16), .ref a0]) (h' := h2) rfl ?_
    refine mX_to 2 (k' := 23) (ls' := [some (.ref a0), some (.int a1)]) (st' := [.int ((gI h2 a0 16) + 1), .ref a0]) (h' := h2) rfl ?_
    refine mX_ck (k' := 24) (ls' := [some (.ref a0), some (.int a1)]) (st' := []) (h' := (sI h2 a0 16 ((gI h2 a0 16) + 1))) rfl ?_
    refine lt_gen (X := fun h3 : MH => mX (mE mtab d) KX11_opened 24 [some (.ref a0), some (.int a1)] [] h3) fun h3 => ?_
    refine mX_to 1 (k' := 25) (ls' := [some (.ref a0), some (.int a1)]) (st' := [.ref a0]) (h' := h3) rfl ?_
    refine mX_ckc (m := mcl (mE mtab d 100 [.ref a0] h3) 0 26 [some (.ref a0), some (.int a1)] []) rfl ?_
    refine mk_cV ?_
    intro h4
    refine mX_to 1 (k' := 27) (ls' := [some (.ref a0), some (.int a1)]) (st' := [.int 0]) (h' := h4) rfl ?_
    exact mX_reti rfl
theorem D_X11_isAskAhead (d : Nat) (h : MH) (a0 : Nat) : mE mtab (d + 1) 123 [.ref a0] h = ck (kd h a0 = 12) (cI (mE mtab d 112 [.ref a0] h) (fun x2 h1 => (if x2 = 41 then ck (kd h1 a0 = 12) (ck (kd h1 a0 = 12) (ck ((kd h1 (gR h1 a0 15) = 20 ∨ kd h1 (gR h1 a0 15) = 24) ∧ ib ((gI h1 a0 16) - 1) (ln h1 (gR h1 a0 15))) ((if (gI h1 (gR h1 a0 15) (ix ((gI h1 a0 16) - 1))) < 40 then ck (kd h1 a0 = 12) (ck (kd h1 a0 = 12) (ck ((kd h1 (gR h1 a0 15) = 20 ∨ kd h1 (gR h1 a0 15) = 24) ∧ ib ((gI h1 a0 16) - 1) (ln h1 (gR h1 a0 15))) (cI (mE mtab d 113 [.int (gI h1 (gR h1 a0 15) (ix ((gI h1 a0 16) - 1)))] h1) (fun x4 h3 => cI (mE mtab d 14 [.int x4, .int 1, .int 3] h3) (fun x6 h5 => (if x6 = 0 then some (.int 0, h5) else some (.int 1, h5))))))) else some (.int 1, h1))))) else some (.int 0, h1)))) := by
  refine mE_eq (q := (yX11_isAskAhead, cX11_isAskAhead, 1, (some .boolean), KX11_isAskAhead)) (C := KX11_isAskAhead) (ls := [some (.ref a0)]) rfl rfl rfl rfl ?_
  refine mX_to 1 (k' := 1) (ls' := [some (.ref a0)]) (st' := [.ref a0]) (h' := h) rfl ?_
  refine mX_ckc (m := mcl (mE mtab d 112 [.ref a0] h) 1 2 [some (.ref a0)] []) rfl ?_
  refine mk_cI ?_
  intro x2 h1
  refine mX_to 1 (k' := 3) (ls' := [some (.ref a0)]) (st' := [.int 41, .int x2]) (h' := h1) rfl ?_
  refine mX_br (t := 4) (f := 27) (ls' := [some (.ref a0)]) (st' := []) (h' := h1) rfl ?_ ?_
  · refine mX_to 1 (k' := 5) (ls' := [some (.ref a0)]) (st' := [.ref a0]) (h' := h1) rfl ?_
    refine mX_ck (k' := 6) (ls' := [some (.ref a0)]) (st' := [.ref (gR h1 a0 15)]) (h' := h1) rfl ?_
    refine mX_to 1 (k' := 7) (ls' := [some (.ref a0)]) (st' := [.ref a0, .ref (gR h1 a0 15)]) (h' := h1) rfl ?_
    refine mX_ck (k' := 8) (ls' := [some (.ref a0)]) (st' := [.int (gI h1 a0 16), .ref (gR h1 a0 15)]) (h' := h1) rfl ?_
    refine mX_to 2 (k' := 10) (ls' := [some (.ref a0)]) (st' := [.int ((gI h1 a0 16) - 1), .ref (gR h1 a0 15)]) (h' := h1) rfl ?_
    refine mX_ck (k' := 11) (ls' := [some (.ref a0)]) (st' := [.int (gI h1 (gR h1 a0 15) (ix ((gI h1 a0 16) - 1)))]) (h' := h1) rfl ?_
    refine mX_to 1 (k' := 12) (ls' := [some (.ref a0)]) (st' := [.int 40, .int (gI h1 (gR h1 a0 15) (ix ((gI h1 a0 16) - 1)))]) (h' := h1) rfl ?_
    refine mX_br (t := 13) (f := 25) (ls' := [some (.ref a0)]) (st' := []) (h' := h1) rfl ?_ ?_
    · refine mX_to 1 (k' := 14) (ls' := [some (.ref a0)]) (st' := [.ref a0]) (h' := h1) rfl ?_
      refine mX_ck (k' := 15) (ls' := [some (.ref a0)]) (st' := [.ref (gR h1 a0 15)]) (h' := h1) rfl ?_
      refine mX_to 1 (k' := 16) (ls' := [some (.ref a0)]) (st' := [.ref a0, .ref (gR h1 a0 15)]) (h' := h1) rfl ?_
      refine mX_ck (k' := 17) (ls' := [some (.ref a0)]) (st' := [.int (gI h1 a0 16), .ref (gR h1 a0 15)]) (h' := h1) rfl ?_
      refine mX_to 2 (k' := 19) (ls' := [some (.ref a0)]) (st' := [.int ((gI h1 a0 16) - 1), .ref (gR h1 a0 15)]) (h' := h1) rfl ?_
      refine mX_ck (k' := 20) (ls' := [some (.ref a0)]) (st' := [.int (gI h1 (gR h1 a0 15) (ix ((gI h1 a0 16) - 1)))]) (h' := h1) rfl ?_
      refine mX_cI (o := mE mtab d 113 [.int (gI h1 (gR h1 a0 15) (ix ((gI h1 a0 16) - 1)))] h1) (k' := 21) (ls' := [some (.ref a0)]) (st' := []) rfl ?_
      intro x4 h3
      refine mX_to 2 (k' := 23) (ls' := [some (.ref a0)]) (st' := [.int 3, .int 1, .int x4]) (h' := h3) rfl ?_
      refine mX_cI (o := mE mtab d 14 [.int x4, .int 1, .int 3] h3) (k' := 24) (ls' := [some (.ref a0)]) (st' := []) rfl ?_
      intro x6 h5
      refine mX_br (t := 27) (f := 25) (ls' := [some (.ref a0)]) (st' := []) (h' := h5) rfl ?_ ?_
      · refine mX_to 1 (k' := 28) (ls' := [some (.ref a0)]) (st' := [.int 0]) (h' := h5) rfl ?_
        exact mX_retb (by decide) rfl
      · refine mX_to 2 (k' := 28) (ls' := [some (.ref a0)]) (st' := [.int 1]) (h' := h5) rfl ?_
        exact mX_retb (by decide) rfl
    · refine mX_to 2 (k' := 28) (ls' := [some (.ref a0)]) (st' := [.int 1]) (h' := h1) rfl ?_
      exact mX_retb (by decide) rfl
  · refine mX_to 1 (k' := 28) (ls' := [some (.ref a0)]) (st' := [.int 0]) (h' := h1) rfl ?_
    exact mX_retb (by decide) rfl
theorem D_X11_beginOne_10 (d : Nat) (h : MH) (l0 : Nat) : mX (mE mtab d) KX11_beginOne 10 [some (.ref l0), none] [] h = ck (kd h l0 = 12) (cI (mE mtab d 121 [.ref l0] h) (fun x2 h1 => (if x2 ≤ 3 then mX (mE mtab d) KX11_beginOne 22 [some (.ref l0), some (.int x2)] [] h1 else ck (kd h1 l0 = 12) ((if (gI h1 l0 14) = 1 then mX (mE mtab d) KX11_beginOne 22 [some (.ref l0), some (.int x2)] [] h1 else some (.int 5, h1)))))) := by
  refine mX_to 1 (k' := 11) (ls' := [some (.ref l0), none]) (st' := [.ref l0]) (h' := h) rfl ?_
  refine mX_ckc (m := mcl (mE mtab d 121 [.ref l0] h) 1 12 [some (.ref l0), none] []) rfl ?_
  refine mk_cI ?_
  intro x2 h1
  refine mX_to 3 (k' := 15) (ls' := [some (.ref l0), some (.int x2)]) (st' := [.int 3, .int x2]) (h' := h1) rfl ?_
  refine mX_br (t := 22) (f := 16) (ls' := [some (.ref l0), some (.int x2)]) (st' := []) (h' := h1) rfl ?_ ?_
  · rfl
  · refine mX_to 1 (k' := 17) (ls' := [some (.ref l0), some (.int x2)]) (st' := [.ref l0]) (h' := h1) rfl ?_
    refine mX_ck (k' := 18) (ls' := [some (.ref l0), some (.int x2)]) (st' := [.int (gI h1 l0 14)]) (h' := h1) rfl ?_
    refine mX_to 1 (k' := 19) (ls' := [some (.ref l0), some (.int x2)]) (st' := [.int 1, .int (gI h1 l0 14)]) (h' := h1) rfl ?_
    refine mX_br (t := 22) (f := 20) (ls' := [some (.ref l0), some (.int x2)]) (st' := []) (h' := h1) rfl ?_ ?_
    · rfl
    · refine mX_to 1 (k' := 21) (ls' := [some (.ref l0), some (.int x2)]) (st' := [.int 5]) (h' := h1) rfl ?_
      exact mX_reti rfl
theorem D_X11_beginOne_22 (d : Nat) (h : MH) (l0 : Nat) (l1 : Int32) : mX (mE mtab d) KX11_beginOne 22 [some (.ref l0), some (.int l1)] [] h = ck (kd h l0 = 12) ((if (gI h l0 9) = 1 then mX (mE mtab d) KX11_beginOne 28 [some (.ref l0), some (.int l1)] [] h else (if l1 < 0 then ck (kd h l0 = 12) ((if (gI h l0 9) = 40 then ck (kd h l0 = 12) (cI (mE mtab d 122 [.ref l0, .int 40] h) (fun x4 h3 => some (.int x4, h3))) else ck (kd h l0 = 12) ((if (gI h l0 9) = 45 then ck (kd h l0 = 12) (cI (mE mtab d 122 [.ref l0, .int 5] h) (fun x6 h5 => some (.int x6, h5))) else cL (mE mtab d 103 [.int 115, .int 105, .int 103, .int 110] h) (fun x8 h7 => ck (kd h7 l0 = 12) (cI (mE mtab d 104 [.ref l0, .long x8] h7) (fun x10 h9 => (if x10 = 0 then cL (mE mtab d 103 [.int 108, .int 111, .int 97, .int 100] h9) (fun x12 h11 => ck (kd h11 l0 = 12) (cI (mE mtab d 104 [.ref l0, .long x12] h11) (fun x14 h13 => (if x14 = 0 then cL (mE mtab d 101 [.int 105, .int 102] h13) (fun x16 h15 => ck (kd h15 l0 = 12) (cI (mE mtab d 104 [.ref l0, .long x16] h15) (fun x18 h17 => (if x18 = 0 then cL (mE mtab d 102 [.int 110, .int 111, .int 116] h17) (fun x20 h19 => ck (kd h19 l0 = 12) (cI (mE mtab d 104 [.ref l0, .long x20] h19) (fun x22 h21 => (if x22 = 0 then some (.int 1, h21) else ck (kd h21 l0 = 12) (cI (mE mtab d 123 [.ref l0] h21) (fun x24 h23 => (if x24 = 0 then some (.int 1, h23) else ck (kd h23 l0 = 12) (cI (mE mtab d 122 [.ref l0, .int 20] h23) (fun x26 h25 => some (.int x26, h25)))))))))) else ck (kd h17 l0 = 12) (cI (mE mtab d 122 [.ref l0, .int 41] h17) (fun x28 h27 => some (.int x28, h27))))))) else ck (kd h13 l0 = 12) (cI (mE mtab d 122 [.ref l0, .int 2] h13) (fun x30 h29 => some (.int x30, h29))))))) else ck (kd h9 l0 = 12) (cI (mE mtab d 122 [.ref l0, .int 4] h9) (fun x32 h31 => some (.int x32, h31))))))))))) else mX (mE mtab d) KX11_beginOne 28 [some (.ref l0), some (.int l1)] [] h))) := by
  refine mX_to 1 (k' := 23) (ls' := [some (.ref l0), some (.int l1)]) (st' := [.ref l0]) (h' := h) rfl ?_
  refine mX_ck (k' := 24) (ls' := [some (.ref l0), some (.int l1)]) (st' := [.int (gI h l0 9)]) (h' := h) rfl ?_
  refine mX_to 1 (k' := 25) (ls' := [some (.ref l0), some (.int l1)]) (st' := [.int 1, .int (gI h l0 9)]) (h' := h) rfl ?_
  refine mX_br (t := 28) (f := 26) (ls' := [some (.ref l0), some (.int l1)]) (st' := []) (h' := h) rfl ?_ ?_
  · rfl
  · refine mX_to 1 (k' := 27) (ls' := [some (.ref l0), some (.int l1)]) (st' := [.int l1]) (h' := h) rfl ?_
    refine mX_br (t := 55) (f := 28) (ls' := [some (.ref l0), some (.int l1)]) (st' := []) (h' := h) rfl ?_ ?_
    · refine mX_to 1 (k' := 56) (ls' := [some (.ref l0), some (.int l1)]) (st' := [.ref l0]) (h' := h) rfl ?_
      refine mX_ck (k' := 57) (ls' := [some (.ref l0), some (.int l1)]) (st' := [.int (gI h l0 9)]) (h' := h) rfl ?_
      refine mX_to 1 (k' := 58) (ls' := [some (.ref l0), some (.int l1)]) (st' := [.int 40, .int (gI h l0 9)]) (h' := h) rfl ?_
      refine mX_br (t := 59) (f := 63) (ls' := [some (.ref l0), some (.int l1)]) (st' := []) (h' := h) rfl ?_ ?_
      · refine mX_to 2 (k' := 61) (ls' := [some (.ref l0), some (.int l1)]) (st' := [.int 40, .ref l0]) (h' := h) rfl ?_
        refine mX_ckc (m := mcl (mE mtab d 122 [.ref l0, .int 40] h) 1 62 [some (.ref l0), some (.int l1)] []) rfl ?_
        refine mk_cI ?_
        intro x4 h3
        exact mX_reti rfl
      · refine mX_to 1 (k' := 64) (ls' := [some (.ref l0), some (.int l1)]) (st' := [.ref l0]) (h' := h) rfl ?_
        refine mX_ck (k' := 65) (ls' := [some (.ref l0), some (.int l1)]) (st' := [.int (gI h l0 9)]) (h' := h) rfl ?_
        refine mX_to 1 (k' := 66) (ls' := [some (.ref l0), some (.int l1)]) (st' := [.int 45, .int (gI h l0 9)]) (h' := h) rfl ?_
        refine mX_br (t := 67) (f := 71) (ls' := [some (.ref l0), some (.int l1)]) (st' := []) (h' := h) rfl ?_ ?_
        · refine mX_to 2 (k' := 69) (ls' := [some (.ref l0), some (.int l1)]) (st' := [.int 5, .ref l0]) (h' := h) rfl ?_
          refine mX_ckc (m := mcl (mE mtab d 122 [.ref l0, .int 5] h) 1 70 [some (.ref l0), some (.int l1)] []) rfl ?_
          refine mk_cI ?_
          intro x6 h5
          exact mX_reti rfl
        · refine mX_to 5 (k' := 76) (ls' := [some (.ref l0), some (.int l1)]) (st' := [.int 110, .int 103, .int 105, .int 115, .ref l0]) (h' := h) rfl ?_
          refine mX_cL (o := mE mtab d 103 [.int 115, .int 105, .int 103, .int 110] h) (k' := 77) (ls' := [some (.ref l0), some (.int l1)]) (st' := [.ref l0]) rfl ?_
          intro x8 h7
          refine mX_ckc (m := mcl (mE mtab d 104 [.ref l0, .long x8] h7) 1 78 [some (.ref l0), some (.int l1)] []) rfl ?_
          refine mk_cI ?_
          intro x10 h9
          refine mX_br (t := 83) (f := 79) (ls' := [some (.ref l0), some (.int l1)]) (st' := []) (h' := h9) rfl ?_ ?_
          · refine mX_to 5 (k' := 88) (ls' := [some (.ref l0), some (.int l1)]) (st' := [.int 100, .int 97, .int 111, .int 108, .ref l0]) (h' := h9) rfl ?_
            refine mX_cL (o := mE mtab d 103 [.int 108, .int 111, .int 97, .int 100] h9) (k' := 89) (ls' := [some (.ref l0), some (.int l1)]) (st' := [.ref l0]) rfl ?_
            intro x12 h11
            refine mX_ckc (m := mcl (mE mtab d 104 [.ref l0, .long x12] h11) 1 90 [some (.ref l0), some (.int l1)] []) rfl ?_
            refine mk_cI ?_
            intro x14 h13
            refine mX_br (t := 95) (f := 91) (ls' := [some (.ref l0), some (.int l1)]) (st' := []) (h' := h13) rfl ?_ ?_
            · refine mX_to 3 (k' := 98) (ls' := [some (.ref l0), some (.int l1)]) (st' := [.int 102, .int 105, .ref l0]) (h' := h13) rfl ?_
              refine mX_cL (o := mE mtab d 101 [.int 105, .int 102] h13) (k' := 99) (ls' := [some (.ref l0), some (.int l1)]) (st' := [.ref l0]) rfl ?_
              intro x16 h15
              refine mX_ckc (m := mcl (mE mtab d 104 [.ref l0, .long x16] h15) 1 100 [some (.ref l0), some (.int l1)] []) rfl ?_
              refine mk_cI ?_
              intro x18 h17
              refine mX_br (t := 105) (f := 101) (ls' := [some (.ref l0), some (.int l1)]) (st' := []) (h' := h17) rfl ?_ ?_
              · refine mX_to 4 (k' := 109) (ls' := [some (.ref l0), some (.int l1)]) (st' := [.int 116, .int 111, .int 110, .ref l0]) (h' := h17) rfl ?_
                refine mX_cL (o := mE mtab d 102 [.int 110, .int 111, .int 116] h17) (k' := 110) (ls' := [some (.ref l0), some (.int l1)]) (st' := [.ref l0]) rfl ?_
                intro x20 h19
                refine mX_ckc (m := mcl (mE mtab d 104 [.ref l0, .long x20] h19) 1 111 [some (.ref l0), some (.int l1)] []) rfl ?_
                refine mk_cI ?_
                intro x22 h21
                refine mX_br (t := 119) (f := 112) (ls' := [some (.ref l0), some (.int l1)]) (st' := []) (h' := h21) rfl ?_ ?_
                · refine mX_to 1 (k' := 120) (ls' := [some (.ref l0), some (.int l1)]) (st' := [.int 1]) (h' := h21) rfl ?_
                  exact mX_reti rfl
                · refine mX_to 1 (k' := 113) (ls' := [some (.ref l0), some (.int l1)]) (st' := [.ref l0]) (h' := h21) rfl ?_
                  refine mX_ckc (m := mcl (mE mtab d 123 [.ref l0] h21) 1 114 [some (.ref l0), some (.int l1)] []) rfl ?_
                  refine mk_cI ?_
                  intro x24 h23
                  refine mX_br (t := 119) (f := 115) (ls' := [some (.ref l0), some (.int l1)]) (st' := []) (h' := h23) rfl ?_ ?_
                  · refine mX_to 1 (k' := 120) (ls' := [some (.ref l0), some (.int l1)]) (st' := [.int 1]) (h' := h23) rfl ?_
                    exact mX_reti rfl
                  · refine mX_to 2 (k' := 117) (ls' := [some (.ref l0), some (.int l1)]) (st' := [.int 20, .ref l0]) (h' := h23) rfl ?_
                    refine mX_ckc (m := mcl (mE mtab d 122 [.ref l0, .int 20] h23) 1 118 [some (.ref l0), some (.int l1)] []) rfl ?_
                    refine mk_cI ?_
                    intro x26 h25
                    refine mX_to 1 (k' := 120) (ls' := [some (.ref l0), some (.int l1)]) (st' := [.int x26]) (h' := h25) rfl ?_
                    exact mX_reti rfl
              · refine mX_to 2 (k' := 103) (ls' := [some (.ref l0), some (.int l1)]) (st' := [.int 41, .ref l0]) (h' := h17) rfl ?_
                refine mX_ckc (m := mcl (mE mtab d 122 [.ref l0, .int 41] h17) 1 104 [some (.ref l0), some (.int l1)] []) rfl ?_
                refine mk_cI ?_
                intro x28 h27
                exact mX_reti rfl
            · refine mX_to 2 (k' := 93) (ls' := [some (.ref l0), some (.int l1)]) (st' := [.int 2, .ref l0]) (h' := h13) rfl ?_
              refine mX_ckc (m := mcl (mE mtab d 122 [.ref l0, .int 2] h13) 1 94 [some (.ref l0), some (.int l1)] []) rfl ?_
              refine mk_cI ?_
              intro x30 h29
              exact mX_reti rfl
          · refine mX_to 2 (k' := 81) (ls' := [some (.ref l0), some (.int l1)]) (st' := [.int 4, .ref l0]) (h' := h9) rfl ?_
            refine mX_ckc (m := mcl (mE mtab d 122 [.ref l0, .int 4] h9) 1 82 [some (.ref l0), some (.int l1)] []) rfl ?_
            refine mk_cI ?_
            intro x32 h31
            exact mX_reti rfl
    · rfl
theorem D_X11_beginOne_28 (d : Nat) (h : MH) (l0 : Nat) (l1 : Int32) : mX (mE mtab d) KX11_beginOne 28 [some (.ref l0), some (.int l1)] [] h = ck (kd h l0 = 12) ((if (gI h l0 9) = 1 then mX (mE mtab d) KX11_beginOne 36 [some (.ref l0), some (.int l1)] [.int 0, .ref l0] h else mX (mE mtab d) KX11_beginOne 36 [some (.ref l0), some (.int l1)] [.int 1, .ref l0] h)) := by
  refine mX_to 2 (k' := 30) (ls' := [some (.ref l0), some (.int l1)]) (st' := [.ref l0, .ref l0]) (h' := h) rfl ?_
  refine mX_ck (k' := 31) (ls' := [some (.ref l0), some (.int l1)]) (st' := [.int (gI h l0 9), .ref l0]) (h' := h) rfl ?_
  refine mX_to 1 (k' := 32) (ls' := [some (.ref l0), some (.int l1)]) (st' := [.int 1, .int (gI h l0 9), .ref l0]) (h' := h) rfl ?_
  refine mX_br (t := 33) (f := 35) (ls' := [some (.ref l0), some (.int l1)]) (st' := [.ref l0]) (h' := h) rfl ?_ ?_
  · refine mX_to 2 (k' := 36) (ls' := [some (.ref l0), some (.int l1)]) (st' := [.int 0, .ref l0]) (h' := h) rfl ?_
    rfl
  · refine mX_to 1 (k' := 36) (ls' := [some (.ref l0), some (.int l1)]) (st' := [.int 1, .ref l0]) (h' := h) rfl ?_
    rfl
theorem D_X11_beginOne_36 (d : Nat) (h : MH) (l0 : Nat) (l1 : Int32) (s0 : Int32) (s1 : Nat) : mX (mE mtab d) KX11_beginOne 36 [some (.ref l0), some (.int l1)] [.int s0, .ref s1] h = ck (kd h l0 = 12) ((if (gI h l0 9) = 1 then ck (kd h l0 = 12) (mX (mE mtab d) KX11_beginOne 44 [some (.ref l0), some (.int l1)] [.int (gI h l0 10), .int s0, .ref s1] h) else mX (mE mtab d) KX11_beginOne 44 [some (.ref l0), some (.int l1)] [.int l1, .int s0, .ref s1] h)) := by
  refine mX_to 1 (k' := 37) (ls' := [some (.ref l0), some (.int l1)]) (st' := [.ref l0, .int s0, .ref s1]) (h' := h) rfl ?_
  refine mX_ck (k' := 38) (ls' := [some (.ref l0), some (.int l1)]) (st' := [.int (gI h l0 9), .int s0, .ref s1]) (h' := h) rfl ?_
  refine mX_to 1 (k' := 39) (ls' := [some (.ref l0), some (.int l1)]) (st' := [.int 1, .int (gI h l0 9), .int s0, .ref s1]) (h' := h) rfl ?_
  refine mX_br (t := 40) (f := 43) (ls' := [some (.ref l0), some (.int l1)]) (st' := [.int s0, .ref s1]) (h' := h) rfl ?_ ?_
  · refine mX_to 1 (k' := 41) (ls' := [some (.ref l0), some (.int l1)]) (st' := [.ref l0, .int s0, .ref s1]) (h' := h) rfl ?_
    refine mX_ck (k' := 42) (ls' := [some (.ref l0), some (.int l1)]) (st' := [.int (gI h l0 10), .int s0, .ref s1]) (h' := h) rfl ?_
    refine mX_to 1 (k' := 44) (ls' := [some (.ref l0), some (.int l1)]) (st' := [.int (gI h l0 10), .int s0, .ref s1]) (h' := h) rfl ?_
    rfl
  · refine mX_to 1 (k' := 44) (ls' := [some (.ref l0), some (.int l1)]) (st' := [.int l1, .int s0, .ref s1]) (h' := h) rfl ?_
    rfl
theorem D_X11_beginOne_44 (d : Nat) (h : MH) (l0 : Nat) (l1 : Int32) (s0 : Int32) (s1 : Int32) (s2 : Nat) : mX (mE mtab d) KX11_beginOne 44 [some (.ref l0), some (.int l1)] [.int s0, .int s1, .ref s2] h = ck (kd h s2 = 12) (cV (mE mtab d 117 [.ref s2, .int s1, .int s0] h) (fun h33 => ck (kd h33 l0 = 12) (cV (mE mtab d 100 [.ref l0] h33) (fun h34 => ck (kd h34 l0 = 12 ∧ ((1 : Int32) = 0 ∨ (1 : Int32) = 1)) (lt_ (sI h34 l0 18 1) fun h35 => ck (kd h35 l0 = 12) (cV (mE mtab d 118 [.ref l0, .int 7] h35) (fun h36 => some (.int 0, h36)))))))) := by
  refine mX_ckc (m := mcl (mE mtab d 117 [.ref s2, .int s1, .int s0] h) 0 45 [some (.ref l0), some (.int l1)] []) rfl ?_
  refine mk_cV ?_
  intro h33
  refine mX_to 1 (k' := 46) (ls' := [some (.ref l0), some (.int l1)]) (st' := [.ref l0]) (h' := h33) rfl ?_
  refine mX_ckc (m := mcl (mE mtab d 100 [.ref l0] h33) 0 47 [some (.ref l0), some (.int l1)] []) rfl ?_
  refine mk_cV ?_
  intro h34
  refine mX_to 2 (k' := 49) (ls' := [some (.ref l0), some (.int l1)]) (st' := [.int 1, .ref l0]) (h' := h34) rfl ?_
  refine mX_ck (k' := 50) (ls' := [some (.ref l0), some (.int l1)]) (st' := []) (h' := (sI h34 l0 18 1)) rfl ?_
  refine lt_gen (X := fun h35 : MH => mX (mE mtab d) KX11_beginOne 50 [some (.ref l0), some (.int l1)] [] h35) fun h35 => ?_
  refine mX_to 2 (k' := 52) (ls' := [some (.ref l0), some (.int l1)]) (st' := [.int 7, .ref l0]) (h' := h35) rfl ?_
  refine mX_ckc (m := mcl (mE mtab d 118 [.ref l0, .int 7] h35) 0 53 [some (.ref l0), some (.int l1)] []) rfl ?_
  refine mk_cV ?_
  intro h36
  refine mX_to 1 (k' := 54) (ls' := [some (.ref l0), some (.int l1)]) (st' := [.int 0]) (h' := h36) rfl ?_
  exact mX_reti rfl
theorem D_X11_beginOne (d : Nat) (h : MH) (a0 : Nat) : mE mtab (d + 1) 124 [.ref a0] h = ck (kd h a0 = 12) ((if (gI h a0 9) = 1 then ck (kd h a0 = 12) ((if (gI h a0 10) ≤ 9999 then mX (mE mtab d) KX11_beginOne 10 [some (.ref a0), none] [] h else some (.int 2, h))) else mX (mE mtab d) KX11_beginOne 10 [some (.ref a0), none] [] h)) := by
  refine mE_eq (q := (yX11_beginOne, cX11_beginOne, 2, (some .int), KX11_beginOne)) (C := KX11_beginOne) (ls := [some (.ref a0), none]) rfl rfl rfl rfl ?_
  refine mX_to 1 (k' := 1) (ls' := [some (.ref a0), none]) (st' := [.ref a0]) (h' := h) rfl ?_
  refine mX_ck (k' := 2) (ls' := [some (.ref a0), none]) (st' := [.int (gI h a0 9)]) (h' := h) rfl ?_
  refine mX_to 1 (k' := 3) (ls' := [some (.ref a0), none]) (st' := [.int 1, .int (gI h a0 9)]) (h' := h) rfl ?_
  refine mX_br (t := 4) (f := 10) (ls' := [some (.ref a0), none]) (st' := []) (h' := h) rfl ?_ ?_
  · refine mX_to 1 (k' := 5) (ls' := [some (.ref a0), none]) (st' := [.ref a0]) (h' := h) rfl ?_
    refine mX_ck (k' := 6) (ls' := [some (.ref a0), none]) (st' := [.int (gI h a0 10)]) (h' := h) rfl ?_
    refine mX_to 1 (k' := 7) (ls' := [some (.ref a0), none]) (st' := [.int 9999, .int (gI h a0 10)]) (h' := h) rfl ?_
    refine mX_br (t := 10) (f := 8) (ls' := [some (.ref a0), none]) (st' := []) (h' := h) rfl ?_ ?_
    · rfl
    · refine mX_to 1 (k' := 9) (ls' := [some (.ref a0), none]) (st' := [.int 2]) (h' := h) rfl ?_
      exact mX_reti rfl
  · rfl
theorem D_X11_summed_9 (d : Nat) (h : MH) (l0 : Nat) (o1 : Option Value) : mX (mE mtab d) KX11_summed 9 [some (.ref l0), o1] [] h = ck (kd h l0 = 12) ((if (gI h l0 18) = 0 then ck (kd h l0 = 12) (cI (mE mtab d 124 [.ref l0] h) (fun x5 h4 => (if x5 = 0 then mX (mE mtab d) KX11_summed 9 [some (.ref l0), some (.int x5)] [] h4 else some (.int x5, h4)))) else ck (kd h l0 = 12) (cI (mE mtab d 120 [.ref l0] h) (fun x7 h6 => (if x7 = 0 then ck (kd h6 l0 = 12) (cI (mE mtab d 112 [.ref l0] h6) (fun x9 h8 => (if x9 < 0 then ck (kd h8 l0 = 12) (cV (mE mtab d 118 [.ref l0, .int 1] h8) (fun h10 => some (.int 0, h10))) else some (.int 1, h8)))) else mX (mE mtab d) KX11_summed 9 [some (.ref l0), o1] [] h6))))) := by
  refine mX_to 1 (k' := 10) (ls' := [some (.ref l0), o1]) (st' := [.ref l0]) (h' := h) rfl ?_
  refine mX_ck (k' := 11) (ls' := [some (.ref l0), o1]) (st' := [.int (gI h l0 18)]) (h' := h) rfl ?_
  refine mX_br (t := 26) (f := 12) (ls' := [some (.ref l0), o1]) (st' := []) (h' := h) rfl ?_ ?_
  · refine mX_to 1 (k' := 27) (ls' := [some (.ref l0), o1]) (st' := [.ref l0]) (h' := h) rfl ?_
    refine mX_ckc (m := mcl (mE mtab d 124 [.ref l0] h) 1 28 [some (.ref l0), o1] []) rfl ?_
    refine mk_cI ?_
    intro x5 h4
    refine mX_to 2 (k' := 30) (ls' := [some (.ref l0), some (.int x5)]) (st' := [.int x5]) (h' := h4) rfl ?_
    refine mX_br (t := 33) (f := 31) (ls' := [some (.ref l0), some (.int x5)]) (st' := []) (h' := h4) rfl ?_ ?_
    · refine mX_to 1 (k' := 9) (ls' := [some (.ref l0), some (.int x5)]) (st' := []) (h' := h4) rfl ?_
      rfl
    · refine mX_to 1 (k' := 32) (ls' := [some (.ref l0), some (.int x5)]) (st' := [.int x5]) (h' := h4) rfl ?_
      exact mX_reti rfl
  · refine mX_to 1 (k' := 13) (ls' := [some (.ref l0), o1]) (st' := [.ref l0]) (h' := h) rfl ?_
    refine mX_ckc (m := mcl (mE mtab d 120 [.ref l0] h) 1 14 [some (.ref l0), o1] []) rfl ?_
    refine mk_cI ?_
    intro x7 h6
    refine mX_br (t := 16) (f := 15) (ls' := [some (.ref l0), o1]) (st' := []) (h' := h6) rfl ?_ ?_
    · refine mX_to 1 (k' := 17) (ls' := [some (.ref l0), o1]) (st' := [.ref l0]) (h' := h6) rfl ?_
      refine mX_ckc (m := mcl (mE mtab d 112 [.ref l0] h6) 1 18 [some (.ref l0), o1] []) rfl ?_
      refine mk_cI ?_
      intro x9 h8
      refine mX_br (t := 21) (f := 19) (ls' := [some (.ref l0), o1]) (st' := []) (h' := h8) rfl ?_ ?_
      · refine mX_to 2 (k' := 23) (ls' := [some (.ref l0), o1]) (st' := [.int 1, .ref l0]) (h' := h8) rfl ?_
        refine mX_ckc (m := mcl (mE mtab d 118 [.ref l0, .int 1] h8) 0 24 [some (.ref l0), o1] []) rfl ?_
        refine mk_cV ?_
        intro h10
        refine mX_to 1 (k' := 25) (ls' := [some (.ref l0), o1]) (st' := [.int 0]) (h' := h10) rfl ?_
        exact mX_reti rfl
      · refine mX_to 1 (k' := 20) (ls' := [some (.ref l0), o1]) (st' := [.int 1]) (h' := h8) rfl ?_
        exact mX_reti rfl
    · refine mX_to 1 (k' := 9) (ls' := [some (.ref l0), o1]) (st' := []) (h' := h6) rfl ?_
      rfl
theorem D_X11_summed (d : Nat) (h : MH) (a0 : Nat) : mE mtab (d + 1) 125 [.ref a0] h = ck (kd h a0 = 12) (lt_ (sI h a0 16 0) fun h1 => ck (kd h1 a0 = 12) (lt_ (sI h1 a0 17 0) fun h2 => ck (kd h2 a0 = 12 ∧ ((0 : Int32) = 0 ∨ (0 : Int32) = 1)) (lt_ (sI h2 a0 18 0) fun h3 => mX (mE mtab d) KX11_summed 9 [some (.ref a0), none] [] h3))) := by
  refine mE_eq (q := (yX11_summed, cX11_summed, 2, (some .int), KX11_summed)) (C := KX11_summed) (ls := [some (.ref a0), none]) rfl rfl rfl rfl ?_
  refine mX_to 2 (k' := 2) (ls' := [some (.ref a0), none]) (st' := [.int 0, .ref a0]) (h' := h) rfl ?_
  refine mX_ck (k' := 3) (ls' := [some (.ref a0), none]) (st' := []) (h' := (sI h a0 16 0)) rfl ?_
  refine lt_gen (X := fun h1 : MH => mX (mE mtab d) KX11_summed 3 [some (.ref a0), none] [] h1) fun h1 => ?_
  refine mX_to 2 (k' := 5) (ls' := [some (.ref a0), none]) (st' := [.int 0, .ref a0]) (h' := h1) rfl ?_
  refine mX_ck (k' := 6) (ls' := [some (.ref a0), none]) (st' := []) (h' := (sI h1 a0 17 0)) rfl ?_
  refine lt_gen (X := fun h2 : MH => mX (mE mtab d) KX11_summed 6 [some (.ref a0), none] [] h2) fun h2 => ?_
  refine mX_to 2 (k' := 8) (ls' := [some (.ref a0), none]) (st' := [.int 0, .ref a0]) (h' := h2) rfl ?_
  refine mX_ck (k' := 9) (ls' := [some (.ref a0), none]) (st' := []) (h' := (sI h2 a0 18 0)) rfl ?_
  refine lt_gen (X := fun h3 : MH => mX (mE mtab d) KX11_summed 9 [some (.ref a0), none] [] h3) fun h3 => ?_
  rfl
theorem D_X11_lawClause (d : Nat) (h : MH) (a0 : Nat) (a1 : Int32) : mE mtab (d + 1) 126 [.ref a0, .int a1] h = ck (kd h a0 = 12) (ck (kd h a0 = 12) (ck (kd h (gR h a0 2) = 20 ∧ ib (a1 + 1) (ln h (gR h a0 2))) (lt_ (sI h (gR h a0 2) (ix (a1 + 1)) (gI h a0 13)) fun h1 => ck (kd h1 a0 = 12) (cI (mE mtab d 125 [.ref a0] h1) (fun x3 h2 => ck (kd h2 a0 = 12) (ck (kd h2 a0 = 12) (ck (kd h2 (gR h2 a0 2) = 20 ∧ ib (a1 + 2) (ln h2 (gR h2 a0 2))) (lt_ (sI h2 (gR h2 a0 2) (ix (a1 + 2)) (gI h2 a0 13)) fun h4 => some (.int x3, h4))))))))) := by
  refine mE_eq (q := (yX11_lawClause, cX11_lawClause, 3, (some .int), KX11_lawClause)) (C := KX11_lawClause) (ls := [some (.ref a0), some (.int a1), none]) rfl rfl rfl rfl ?_
  refine mX_to 1 (k' := 1) (ls' := [some (.ref a0), some (.int a1), none]) (st' := [.ref a0]) (h' := h) rfl ?_
  refine mX_ck (k' := 2) (ls' := [some (.ref a0), some (.int a1), none]) (st' := [.ref (gR h a0 2)]) (h' := h) rfl ?_
  refine mX_to 4 (k' := 6) (ls' := [some (.ref a0), some (.int a1), none]) (st' := [.ref a0, .int (a1 + 1), .ref (gR h a0 2)]) (h' := h) rfl ?_
  refine mX_ck (k' := 7) (ls' := [some (.ref a0), some (.int a1), none]) (st' := [.int (gI h a0 13), .int (a1 + 1), .ref (gR h a0 2)]) (h' := h) rfl ?_
  refine mX_ck (k' := 8) (ls' := [some (.ref a0), some (.int a1), none]) (st' := []) (h' := (sI h (gR h a0 2) (ix (a1 + 1)) (gI h a0 13))) rfl ?_
  refine lt_gen (X := fun h1 : MH => mX (mE mtab d) KX11_lawClause 8 [some (.ref a0), some (.int a1), none] [] h1) fun h1 => ?_
  refine mX_to 1 (k' := 9) (ls' := [some (.ref a0), some (.int a1), none]) (st' := [.ref a0]) (h' := h1) rfl ?_
  refine mX_ckc (m := mcl (mE mtab d 125 [.ref a0] h1) 1 10 [some (.ref a0), some (.int a1), none] []) rfl ?_
  refine mk_cI ?_
  intro x3 h2
  refine mX_to 2 (k' := 12) (ls' := [some (.ref a0), some (.int a1), some (.int x3)]) (st' := [.ref a0]) (h' := h2) rfl ?_
  refine mX_ck (k' := 13) (ls' := [some (.ref a0), some (.int a1), some (.int x3)]) (st' := [.ref (gR h2 a0 2)]) (h' := h2) rfl ?_
  refine mX_to 4 (k' := 17) (ls' := [some (.ref a0), some (.int a1), some (.int x3)]) (st' := [.ref a0, .int (a1 + 2), .ref (gR h2 a0 2)]) (h' := h2) rfl ?_
  refine mX_ck (k' := 18) (ls' := [some (.ref a0), some (.int a1), some (.int x3)]) (st' := [.int (gI h2 a0 13), .int (a1 + 2), .ref (gR h2 a0 2)]) (h' := h2) rfl ?_
  refine mX_ck (k' := 19) (ls' := [some (.ref a0), some (.int a1), some (.int x3)]) (st' := []) (h' := (sI h2 (gR h2 a0 2) (ix (a1 + 2)) (gI h2 a0 13))) rfl ?_
  refine lt_gen (X := fun h4 : MH => mX (mE mtab d) KX11_lawClause 19 [some (.ref a0), some (.int a1), some (.int x3)] [] h4) fun h4 => ?_
  refine mX_to 1 (k' := 20) (ls' := [some (.ref a0), some (.int a1), some (.int x3)]) (st' := [.int x3]) (h' := h4) rfl ?_
  exact mX_reti rfl
theorem D_X11_body (d : Nat) (h : MH) (a0 : Nat) (a1 : Int32) (a2 : Int32) : mE mtab (d + 1) 127 [.ref a0, .int a1, .int a2] h = (if a1 = 2 then ck (kd h a0 = 12) (cI (mE mtab d 110 [.ref a0, .int a2, .int 1, .int 9] h) (fun x2 h1 => some (.int x2, h1))) else (if a1 = 3 then ck (kd h a0 = 12) (cI (mE mtab d 110 [.ref a0, .int a2, .int 0, .int 3] h) (fun x4 h3 => some (.int x4, h3))) else (if a1 = 4 then ck (kd h a0 = 12) (cI (mE mtab d 109 [.ref a0, .int (a2 + 1), .int 0, .int 3] h) (fun x6 h5 => some (.int x6, h5))) else (if a1 = 5 then ck (kd h a0 = 12) (cI (mE mtab d 109 [.ref a0, .int (a2 + 1), .int 0, .int 3] h) (fun x8 h7 => some (.int x8, h7))) else (if a1 = 6 then ck (kd h a0 = 12) (cI (mE mtab d 110 [.ref a0, .int a2, .int 1, .int 9] h) (fun x10 h9 => some (.int x10, h9))) else (if a1 = 7 then ck (kd h a0 = 12) (cI (mE mtab d 109 [.ref a0, .int (a2 + 1), .int 1, .int 60] h) (fun x12 h11 => some (.int x12, h11))) else ck (kd h a0 = 12) (cI (mE mtab d 126 [.ref a0, .int a2] h) (fun x14 h13 => some (.int x14, h13))))))))) := by
  refine mE_eq (q := (yX11_body, cX11_body, 3, (some .int), KX11_body)) (C := KX11_body) (ls := [some (.ref a0), some (.int a1), some (.int a2)]) rfl rfl rfl rfl ?_
  refine mX_to 1 (k' := 1) (ls' := [some (.ref a0), some (.int a1), some (.int a2)]) (st' := [.int a1]) (h' := h) rfl ?_
  refine mX_sw (x := a1) (t := 44) (sw := [(2, 2), (3, 8), (4, 14), (5, 22), (6, 30), (7, 36)]) (ls' := [some (.ref a0), some (.int a1), some (.int a2)]) (st' := []) (h' := h) rfl ?_
  refine msw_cons ?_ ?_
  · refine mX_to 4 (k' := 6) (ls' := [some (.ref a0), some (.int a1), some (.int a2)]) (st' := [.int 9, .int 1, .int a2, .ref a0]) (h' := h) rfl ?_
    refine mX_ckc (m := mcl (mE mtab d 110 [.ref a0, .int a2, .int 1, .int 9] h) 1 7 [some (.ref a0), some (.int a1), some (.int a2)] []) rfl ?_
    refine mk_cI ?_
    intro x2 h1
    exact mX_reti rfl
  refine msw_cons ?_ ?_
  · refine mX_to 4 (k' := 12) (ls' := [some (.ref a0), some (.int a1), some (.int a2)]) (st' := [.int 3, .int 0, .int a2, .ref a0]) (h' := h) rfl ?_
    refine mX_ckc (m := mcl (mE mtab d 110 [.ref a0, .int a2, .int 0, .int 3] h) 1 13 [some (.ref a0), some (.int a1), some (.int a2)] []) rfl ?_
    refine mk_cI ?_
    intro x4 h3
    exact mX_reti rfl
  refine msw_cons ?_ ?_
  · refine mX_to 6 (k' := 20) (ls' := [some (.ref a0), some (.int a1), some (.int a2)]) (st' := [.int 3, .int 0, .int (a2 + 1), .ref a0]) (h' := h) rfl ?_
    refine mX_ckc (m := mcl (mE mtab d 109 [.ref a0, .int (a2 + 1), .int 0, .int 3] h) 1 21 [some (.ref a0), some (.int a1), some (.int a2)] []) rfl ?_
    refine mk_cI ?_
    intro x6 h5
    exact mX_reti rfl
  refine msw_cons ?_ ?_
  · refine mX_to 6 (k' := 28) (ls' := [some (.ref a0), some (.int a1), some (.int a2)]) (st' := [.int 3, .int 0, .int (a2 + 1), .ref a0]) (h' := h) rfl ?_
    refine mX_ckc (m := mcl (mE mtab d 109 [.ref a0, .int (a2 + 1), .int 0, .int 3] h) 1 29 [some (.ref a0), some (.int a1), some (.int a2)] []) rfl ?_
    refine mk_cI ?_
    intro x8 h7
    exact mX_reti rfl
  refine msw_cons ?_ ?_
  · refine mX_to 4 (k' := 34) (ls' := [some (.ref a0), some (.int a1), some (.int a2)]) (st' := [.int 9, .int 1, .int a2, .ref a0]) (h' := h) rfl ?_
    refine mX_ckc (m := mcl (mE mtab d 110 [.ref a0, .int a2, .int 1, .int 9] h) 1 35 [some (.ref a0), some (.int a1), some (.int a2)] []) rfl ?_
    refine mk_cI ?_
    intro x10 h9
    exact mX_reti rfl
  refine msw_cons ?_ ?_
  · refine mX_to 6 (k' := 42) (ls' := [some (.ref a0), some (.int a1), some (.int a2)]) (st' := [.int 60, .int 1, .int (a2 + 1), .ref a0]) (h' := h) rfl ?_
    refine mX_ckc (m := mcl (mE mtab d 109 [.ref a0, .int (a2 + 1), .int 1, .int 60] h) 1 43 [some (.ref a0), some (.int a1), some (.int a2)] []) rfl ?_
    refine mk_cI ?_
    intro x12 h11
    exact mX_reti rfl
  refine msw_nil ?_
  refine mX_to 2 (k' := 46) (ls' := [some (.ref a0), some (.int a1), some (.int a2)]) (st' := [.int a2, .ref a0]) (h' := h) rfl ?_
  refine mX_ckc (m := mcl (mE mtab d 126 [.ref a0, .int a2] h) 1 47 [some (.ref a0), some (.int a1), some (.int a2)] []) rfl ?_
  refine mk_cI ?_
  intro x14 h13
  exact mX_reti rfl
theorem D_X11_clause_17 (d : Nat) (h : MH) (l0 : Nat) (l1 : Int32) : mX (mE mtab d) KX11_clause 17 [some (.ref l0), some (.int l1), none, none, none] [] h = ck (kd h l0 = 12) (ck (kd h l0 = 12) (ck ((kd h (gR h l0 2) = 20 ∨ kd h (gR h l0 2) = 24) ∧ ib (gI h l0 12) (ln h (gR h l0 2))) (lt_ (gI h (gR h l0 2) (ix (gI h l0 12))) fun v5 => (if v5 = 24 then some (.int 6, h) else (if l1 ≤ 1 then ck (kd h l0 = 12) (ck (kd h l0 = 12) (lt_ (sI h l0 19 ((gI h l0 19) ||| (1 <<< (l1 &&& 31)))) fun h6 => mX (mE mtab d) KX11_clause 39 [some (.ref l0), some (.int l1), some (.int v5), none, none] [] h6)) else mX (mE mtab d) KX11_clause 39 [some (.ref l0), some (.int l1), some (.int v5), none, none] [] h))))) := by
  refine mX_to 1 (k' := 18) (ls' := [some (.ref l0), some (.int l1), none, none, none]) (st' := [.ref l0]) (h' := h) rfl ?_
  refine mX_ck (k' := 19) (ls' := [some (.ref l0), some (.int l1), none, none, none]) (st' := [.ref (gR h l0 2)]) (h' := h) rfl ?_
  refine mX_to 1 (k' := 20) (ls' := [some (.ref l0), some (.int l1), none, none, none]) (st' := [.ref l0, .ref (gR h l0 2)]) (h' := h) rfl ?_
  refine mX_ck (k' := 21) (ls' := [some (.ref l0), some (.int l1), none, none, none]) (st' := [.int (gI h l0 12), .ref (gR h l0 2)]) (h' := h) rfl ?_
  refine mX_ck (k' := 22) (ls' := [some (.ref l0), some (.int l1), none, none, none]) (st' := [.int (gI h (gR h l0 2) (ix (gI h l0 12)))]) (h' := h) rfl ?_
  refine lt_gen (X := fun v5 : Int32 => mX (mE mtab d) KX11_clause 22 [some (.ref l0), some (.int l1), none, none, none] [.int v5] h) fun v5 => ?_
  refine mX_to 3 (k' := 25) (ls' := [some (.ref l0), some (.int l1), some (.int v5), none, none]) (st' := [.int 24, .int v5]) (h' := h) rfl ?_
  refine mX_br (t := 26) (f := 28) (ls' := [some (.ref l0), some (.int l1), some (.int v5), none, none]) (st' := []) (h' := h) rfl ?_ ?_
  · refine mX_to 1 (k' := 27) (ls' := [some (.ref l0), some (.int l1), some (.int v5), none, none]) (st' := [.int 6]) (h' := h) rfl ?_
    exact mX_reti rfl
  · refine mX_to 2 (k' := 30) (ls' := [some (.ref l0), some (.int l1), some (.int v5), none, none]) (st' := [.int 1, .int l1]) (h' := h) rfl ?_
    refine mX_br (t := 31) (f := 39) (ls' := [some (.ref l0), some (.int l1), some (.int v5), none, none]) (st' := []) (h' := h) rfl ?_ ?_
    · refine mX_to 2 (k' := 33) (ls' := [some (.ref l0), some (.int l1), some (.int v5), none, none]) (st' := [.ref l0, .ref l0]) (h' := h) rfl ?_
      refine mX_ck (k' := 34) (ls' := [some (.ref l0), some (.int l1), some (.int v5), none, none]) (st' := [.int (gI h l0 19), .ref l0]) (h' := h) rfl ?_
      refine mX_to 4 (k' := 38) (ls' := [some (.ref l0), some (.int l1), some (.int v5), none, none]) (st' := [.int ((gI h l0 19) ||| (1 <<< (l1 &&& 31))), .ref l0]) (h' := h) rfl ?_
      refine mX_ck (k' := 39) (ls' := [some (.ref l0), some (.int l1), some (.int v5), none, none]) (st' := []) (h' := (sI h l0 19 ((gI h l0 19) ||| (1 <<< (l1 &&& 31))))) rfl ?_
      refine lt_gen (X := fun h6 : MH => mX (mE mtab d) KX11_clause 39 [some (.ref l0), some (.int l1), some (.int v5), none, none] [] h6) fun h6 => ?_
      rfl
    · rfl
theorem D_X11_clause_39 (d : Nat) (h : MH) (l0 : Nat) (l1 : Int32) (l2 : Int32) : mX (mE mtab d) KX11_clause 39 [some (.ref l0), some (.int l1), some (.int l2), none, none] [] h = ck (kd h l0 = 12) (lt_ (sI h l0 14 l1) fun h7 => ck (kd h7 l0 = 12) (cV (mE mtab d 100 [.ref l0] h7) (fun h8 => ck (kd h8 l0 = 12) (lt_ (((gI h8 l0 12) + 1) + (3 * l2)) fun v9 => ck (kd h8 l0 = 12) (ck (kd h8 (gR h8 l0 2) = 20 ∧ ib v9 (ln h8 (gR h8 l0 2))) (lt_ (sI h8 (gR h8 l0 2) (ix v9) l1) fun h10 => ck (kd h10 l0 = 12) (cI (mE mtab d 127 [.ref l0, .int l1, .int v9] h10) (fun x12 h11 => (if x12 = 0 then ck (kd h11 l0 = 12) (ck (kd h11 l0 = 12) (ck ((kd h11 (gR h11 l0 2) = 20 ∨ kd h11 (gR h11 l0 2) = 24) ∧ ib (gI h11 l0 12) (ln h11 (gR h11 l0 2))) (ck (kd h11 (gR h11 l0 2) = 20 ∧ ib (gI h11 l0 12) (ln h11 (gR h11 l0 2))) (lt_ (sI h11 (gR h11 l0 2) (ix (gI h11 l0 12)) ((gI h11 (gR h11 l0 2) (ix (gI h11 l0 12))) + 1)) fun h13 => ck (kd h13 l0 = 12) ((if (gI h13 l0 9) = 59 then ck (kd h13 l0 = 12) (cV (mE mtab d 100 [.ref l0] h13) (fun h14 => some (.int 0, h14))) else some (.int 1, h13))))))) else some (.int x12, h11)))))))))) := by
  refine mX_to 2 (k' := 41) (ls' := [some (.ref l0), some (.int l1), some (.int l2), none, none]) (st' := [.int l1, .ref l0]) (h' := h) rfl ?_
  refine mX_ck (k' := 42) (ls' := [some (.ref l0), some (.int l1), some (.int l2), none, none]) (st' := []) (h' := (sI h l0 14 l1)) rfl ?_
  refine lt_gen (X := fun h7 : MH => mX (mE mtab d) KX11_clause 42 [some (.ref l0), some (.int l1), some (.int l2), none, none] [] h7) fun h7 => ?_
  refine mX_to 1 (k' := 43) (ls' := [some (.ref l0), some (.int l1), some (.int l2), none, none]) (st' := [.ref l0]) (h' := h7) rfl ?_
  refine mX_ckc (m := mcl (mE mtab d 100 [.ref l0] h7) 0 44 [some (.ref l0), some (.int l1), some (.int l2), none, none] []) rfl ?_
  refine mk_cV ?_
  intro h8
  refine mX_to 1 (k' := 45) (ls' := [some (.ref l0), some (.int l1), some (.int l2), none, none]) (st' := [.ref l0]) (h' := h8) rfl ?_
  refine mX_ck (k' := 46) (ls' := [some (.ref l0), some (.int l1), some (.int l2), none, none]) (st' := [.int (gI h8 l0 12)]) (h' := h8) rfl ?_
  refine mX_to 6 (k' := 52) (ls' := [some (.ref l0), some (.int l1), some (.int l2), none, none]) (st' := [.int (((gI h8 l0 12) + 1) + (3 * l2))]) (h' := h8) rfl ?_
  refine lt_gen (X := fun v9 : Int32 => mX (mE mtab d) KX11_clause 52 [some (.ref l0), some (.int l1), some (.int l2), none, none] [.int v9] h8) fun v9 => ?_
  refine mX_to 2 (k' := 54) (ls' := [some (.ref l0), some (.int l1), some (.int l2), some (.int v9), none]) (st' := [.ref l0]) (h' := h8) rfl ?_
  refine mX_ck (k' := 55) (ls' := [some (.ref l0), some (.int l1), some (.int l2), some (.int v9), none]) (st' := [.ref (gR h8 l0 2)]) (h' := h8) rfl ?_
  refine mX_to 2 (k' := 57) (ls' := [some (.ref l0), some (.int l1), some (.int l2), some (.int v9), none]) (st' := [.int l1, .int v9, .ref (gR h8 l0 2)]) (h' := h8) rfl ?_
  refine mX_ck (k' := 58) (ls' := [some (.ref l0), some (.int l1), some (.int l2), some (.int v9), none]) (st' := []) (h' := (sI h8 (gR h8 l0 2) (ix v9) l1)) rfl ?_
  refine lt_gen (X := fun h10 : MH => mX (mE mtab d) KX11_clause 58 [some (.ref l0), some (.int l1), some (.int l2), some (.int v9), none] [] h10) fun h10 => ?_
  refine mX_to 3 (k' := 61) (ls' := [some (.ref l0), some (.int l1), some (.int l2), some (.int v9), none]) (st' := [.int v9, .int l1, .ref l0]) (h' := h10) rfl ?_
  refine mX_ckc (m := mcl (mE mtab d 127 [.ref l0, .int l1, .int v9] h10) 1 62 [some (.ref l0), some (.int l1), some (.int l2), some (.int v9), none] []) rfl ?_
  refine mk_cI ?_
  intro x12 h11
  refine mX_to 2 (k' := 64) (ls' := [some (.ref l0), some (.int l1), some (.int l2), some (.int v9), some (.int x12)]) (st' := [.int x12]) (h' := h11) rfl ?_
  refine mX_br (t := 67) (f := 65) (ls' := [some (.ref l0), some (.int l1), some (.int l2), some (.int v9), some (.int x12)]) (st' := []) (h' := h11) rfl ?_ ?_
  · refine mX_to 1 (k' := 68) (ls' := [some (.ref l0), some (.int l1), some (.int l2), some (.int v9), some (.int x12)]) (st' := [.ref l0]) (h' := h11) rfl ?_
    refine mX_ck (k' := 69) (ls' := [some (.ref l0), some (.int l1), some (.int l2), some (.int v9), some (.int x12)]) (st' := [.ref (gR h11 l0 2)]) (h' := h11) rfl ?_
    refine mX_to 1 (k' := 70) (ls' := [some (.ref l0), some (.int l1), some (.int l2), some (.int v9), some (.int x12)]) (st' := [.ref l0, .ref (gR h11 l0 2)]) (h' := h11) rfl ?_
    refine mX_ck (k' := 71) (ls' := [some (.ref l0), some (.int l1), some (.int l2), some (.int v9), some (.int x12)]) (st' := [.int (gI h11 l0 12), .ref (gR h11 l0 2)]) (h' := h11) rfl ?_
    refine mX_to 1 (k' := 72) (ls' := [some (.ref l0), some (.int l1), some (.int l2), some (.int v9), some (.int x12)]) (st' := [.int (gI h11 l0 12), .ref (gR h11 l0 2), .int (gI h11 l0 12), .ref (gR h11 l0 2)]) (h' := h11) rfl ?_
    refine mX_ck (k' := 73) (ls' := [some (.ref l0), some (.int l1), some (.int l2), some (.int v9), some (.int x12)]) (st' := [.int (gI h11 (gR h11 l0 2) (ix (gI h11 l0 12))), .int (gI h11 l0 12), .ref (gR h11 l0 2)]) (h' := h11) rfl ?_
    refine mX_to 2 (k' := 75) (ls' := [some (.ref l0), some (.int l1), some (.int l2), some (.int v9), some (.int x12)]) (st' := [.int ((gI h11 (gR h11 l0 2) (ix (gI h11 l0 12))) + 1), .int (gI h11 l0 12), .ref (gR h11 l0 2)]) (h' := h11) rfl ?_
    refine mX_ck (k' := 76) (ls' := [some (.ref l0), some (.int l1), some (.int l2), some (.int v9), some (.int x12)]) (st' := []) (h' := (sI h11 (gR h11 l0 2) (ix (gI h11 l0 12)) ((gI h11 (gR h11 l0 2) (ix (gI h11 l0 12))) + 1))) rfl ?_
    refine lt_gen (X := fun h13 : MH => mX (mE mtab d) KX11_clause 76 [some (.ref l0), some (.int l1), some (.int l2), some (.int v9), some (.int x12)] [] h13) fun h13 => ?_
    refine mX_to 1 (k' := 77) (ls' := [some (.ref l0), some (.int l1), some (.int l2), some (.int v9), some (.int x12)]) (st' := [.ref l0]) (h' := h13) rfl ?_
    refine mX_ck (k' := 78) (ls' := [some (.ref l0), some (.int l1), some (.int l2), some (.int v9), some (.int x12)]) (st' := [.int (gI h13 l0 9)]) (h' := h13) rfl ?_
    refine mX_to 1 (k' := 79) (ls' := [some (.ref l0), some (.int l1), some (.int l2), some (.int v9), some (.int x12)]) (st' := [.int 59, .int (gI h13 l0 9)]) (h' := h13) rfl ?_
    refine mX_br (t := 82) (f := 80) (ls' := [some (.ref l0), some (.int l1), some (.int l2), some (.int v9), some (.int x12)]) (st' := []) (h' := h13) rfl ?_ ?_
    · refine mX_to 1 (k' := 83) (ls' := [some (.ref l0), some (.int l1), some (.int l2), some (.int v9), some (.int x12)]) (st' := [.ref l0]) (h' := h13) rfl ?_
      refine mX_ckc (m := mcl (mE mtab d 100 [.ref l0] h13) 0 84 [some (.ref l0), some (.int l1), some (.int l2), some (.int v9), some (.int x12)] []) rfl ?_
      refine mk_cV ?_
      intro h14
      refine mX_to 1 (k' := 85) (ls' := [some (.ref l0), some (.int l1), some (.int l2), some (.int v9), some (.int x12)]) (st' := [.int 0]) (h' := h14) rfl ?_
      exact mX_reti rfl
    · refine mX_to 1 (k' := 81) (ls' := [some (.ref l0), some (.int l1), some (.int l2), some (.int v9), some (.int x12)]) (st' := [.int 1]) (h' := h13) rfl ?_
      exact mX_reti rfl
  · refine mX_to 1 (k' := 66) (ls' := [some (.ref l0), some (.int l1), some (.int l2), some (.int v9), some (.int x12)]) (st' := [.int x12]) (h' := h11) rfl ?_
    exact mX_reti rfl
theorem D_X11_clause (d : Nat) (h : MH) (a0 : Nat) : mE mtab (d + 1) 128 [.ref a0] h = ck (kd h a0 = 12) (cI (mE mtab d 107 [.ref a0] h) (fun x2 h1 => (if x2 < 0 then some (.int 1, h1) else (if x2 ≤ 1 then ck (kd h1 a0 = 12) (cI (mE mtab d 108 [.int (gI h1 a0 19), .int x2] h1) (fun x4 h3 => (if x4 = 0 then mX (mE mtab d) KX11_clause 17 [some (.ref a0), some (.int x2), none, none, none] [] h3 else some (.int 4, h3)))) else mX (mE mtab d) KX11_clause 17 [some (.ref a0), some (.int x2), none, none, none] [] h1)))) := by
  refine mE_eq (q := (yX11_clause, cX11_clause, 5, (some .int), KX11_clause)) (C := KX11_clause) (ls := [some (.ref a0), none, none, none, none]) rfl rfl rfl rfl ?_
  refine mX_to 1 (k' := 1) (ls' := [some (.ref a0), none, none, none, none]) (st' := [.ref a0]) (h' := h) rfl ?_
  refine mX_ckc (m := mcl (mE mtab d 107 [.ref a0] h) 1 2 [some (.ref a0), none, none, none, none] []) rfl ?_
  refine mk_cI ?_
  intro x2 h1
  refine mX_to 2 (k' := 4) (ls' := [some (.ref a0), some (.int x2), none, none, none]) (st' := [.int x2]) (h' := h1) rfl ?_
  refine mX_br (t := 5) (f := 7) (ls' := [some (.ref a0), some (.int x2), none, none, none]) (st' := []) (h' := h1) rfl ?_ ?_
  · refine mX_to 1 (k' := 6) (ls' := [some (.ref a0), some (.int x2), none, none, none]) (st' := [.int 1]) (h' := h1) rfl ?_
    exact mX_reti rfl
  · refine mX_to 2 (k' := 9) (ls' := [some (.ref a0), some (.int x2), none, none, none]) (st' := [.int 1, .int x2]) (h' := h1) rfl ?_
    refine mX_br (t := 10) (f := 17) (ls' := [some (.ref a0), some (.int x2), none, none, none]) (st' := []) (h' := h1) rfl ?_ ?_
    · refine mX_to 1 (k' := 11) (ls' := [some (.ref a0), some (.int x2), none, none, none]) (st' := [.ref a0]) (h' := h1) rfl ?_
      refine mX_ck (k' := 12) (ls' := [some (.ref a0), some (.int x2), none, none, none]) (st' := [.int (gI h1 a0 19)]) (h' := h1) rfl ?_
      refine mX_to 1 (k' := 13) (ls' := [some (.ref a0), some (.int x2), none, none, none]) (st' := [.int x2, .int (gI h1 a0 19)]) (h' := h1) rfl ?_
      refine mX_cI (o := mE mtab d 108 [.int (gI h1 a0 19), .int x2] h1) (k' := 14) (ls' := [some (.ref a0), some (.int x2), none, none, none]) (st' := []) rfl ?_
      intro x4 h3
      refine mX_br (t := 17) (f := 15) (ls' := [some (.ref a0), some (.int x2), none, none, none]) (st' := []) (h' := h3) rfl ?_ ?_
      · rfl
      · refine mX_to 1 (k' := 16) (ls' := [some (.ref a0), some (.int x2), none, none, none]) (st' := [.int 4]) (h' := h3) rfl ?_
        exact mX_reti rfl
    · rfl
theorem D_X11_readText_25 (d : Nat) (h : MH) (l0 : Nat) (o1 : Option Value) : mX (mE mtab d) KX11_readText 25 [some (.ref l0), o1] [] h = ck (kd h l0 = 12) ((if (gI h l0 9) = 0 then some (.int 0, h) else ck (kd h l0 = 12) (cI (mE mtab d 128 [.ref l0] h) (fun x8 h7 => (if x8 = 0 then mX (mE mtab d) KX11_readText 25 [some (.ref l0), some (.int x8)] [] h7 else some (.int x8, h7)))))) := by
  refine mX_to 1 (k' := 26) (ls' := [some (.ref l0), o1]) (st' := [.ref l0]) (h' := h) rfl ?_
  refine mX_ck (k' := 27) (ls' := [some (.ref l0), o1]) (st' := [.int (gI h l0 9)]) (h' := h) rfl ?_
  refine mX_br (t := 36) (f := 28) (ls' := [some (.ref l0), o1]) (st' := []) (h' := h) rfl ?_ ?_
  · refine mX_to 1 (k' := 37) (ls' := [some (.ref l0), o1]) (st' := [.int 0]) (h' := h) rfl ?_
    exact mX_reti rfl
  · refine mX_to 1 (k' := 29) (ls' := [some (.ref l0), o1]) (st' := [.ref l0]) (h' := h) rfl ?_
    refine mX_ckc (m := mcl (mE mtab d 128 [.ref l0] h) 1 30 [some (.ref l0), o1] []) rfl ?_
    refine mk_cI ?_
    intro x8 h7
    refine mX_to 2 (k' := 32) (ls' := [some (.ref l0), some (.int x8)]) (st' := [.int x8]) (h' := h7) rfl ?_
    refine mX_br (t := 35) (f := 33) (ls' := [some (.ref l0), some (.int x8)]) (st' := []) (h' := h7) rfl ?_ ?_
    · refine mX_to 1 (k' := 25) (ls' := [some (.ref l0), some (.int x8)]) (st' := []) (h' := h7) rfl ?_
      rfl
    · refine mX_to 1 (k' := 34) (ls' := [some (.ref l0), some (.int x8)]) (st' := [.int x8]) (h' := h7) rfl ?_
      exact mX_reti rfl
theorem D_X11_readText (d : Nat) (h : MH) (a0 : Nat) : mE mtab (d + 1) 129 [.ref a0] h = ck (kd h a0 = 12) (ck ((kd h (gR h a0 0) = 20 ∨ kd h (gR h a0 0) = 24) ∧ ib (2 : Int32) (ln h (gR h a0 0))) (ck (kd h a0 = 12) (lt_ (sI h a0 12 (681 * (gI h (gR h a0 0) (ix (2 : Int32))))) fun h1 => ck (kd h1 a0 = 12) (ck (kd h1 a0 = 12) (ck (kd h1 (gR h1 a0 2) = 20 ∧ ib (gI h1 a0 12) (ln h1 (gR h1 a0 2))) (lt_ (sI h1 (gR h1 a0 2) (ix (gI h1 a0 12)) 0) fun h2 => ck (kd h2 a0 = 12) (lt_ (sI h2 a0 13 0) fun h3 => ck (kd h3 a0 = 12) (lt_ (sI h3 a0 19 0) fun h4 => ck (kd h4 a0 = 12) (lt_ (sI h4 a0 7 0) fun h5 => ck (kd h5 a0 = 12) (cV (mE mtab d 100 [.ref a0] h5) (fun h6 => mX (mE mtab d) KX11_readText 25 [some (.ref a0), none] [] h6))))))))))) := by
  refine mE_eq (q := (yX11_readText, cX11_readText, 2, (some .int), KX11_readText)) (C := KX11_readText) (ls := [some (.ref a0), none]) rfl rfl rfl rfl ?_
  refine mX_to 3 (k' := 3) (ls' := [some (.ref a0), none]) (st' := [.ref a0, .int 681, .ref a0]) (h' := h) rfl ?_
  refine mX_ck (k' := 4) (ls' := [some (.ref a0), none]) (st' := [.ref (gR h a0 0), .int 681, .ref a0]) (h' := h) rfl ?_
  refine mX_to 1 (k' := 5) (ls' := [some (.ref a0), none]) (st' := [.int 2, .ref (gR h a0 0), .int 681, .ref a0]) (h' := h) rfl ?_
  refine mX_ck (k' := 6) (ls' := [some (.ref a0), none]) (st' := [.int (gI h (gR h a0 0) (ix (2 : Int32))), .int 681, .ref a0]) (h' := h) rfl ?_
  refine mX_to 1 (k' := 7) (ls' := [some (.ref a0), none]) (st' := [.int (681 * (gI h (gR h a0 0) (ix (2 : Int32)))), .ref a0]) (h' := h) rfl ?_
  refine mX_ck (k' := 8) (ls' := [some (.ref a0), none]) (st' := []) (h' := (sI h a0 12 (681 * (gI h (gR h a0 0) (ix (2 : Int32)))))) rfl ?_
  refine lt_gen (X := fun h1 : MH => mX (mE mtab d) KX11_readText 8 [some (.ref a0), none] [] h1) fun h1 => ?_
  refine mX_to 1 (k' := 9) (ls' := [some (.ref a0), none]) (st' := [.ref a0]) (h' := h1) rfl ?_
  refine mX_ck (k' := 10) (ls' := [some (.ref a0), none]) (st' := [.ref (gR h1 a0 2)]) (h' := h1) rfl ?_
  refine mX_to 1 (k' := 11) (ls' := [some (.ref a0), none]) (st' := [.ref a0, .ref (gR h1 a0 2)]) (h' := h1) rfl ?_
  refine mX_ck (k' := 12) (ls' := [some (.ref a0), none]) (st' := [.int (gI h1 a0 12), .ref (gR h1 a0 2)]) (h' := h1) rfl ?_
  refine mX_to 1 (k' := 13) (ls' := [some (.ref a0), none]) (st' := [.int 0, .int (gI h1 a0 12), .ref (gR h1 a0 2)]) (h' := h1) rfl ?_
  refine mX_ck (k' := 14) (ls' := [some (.ref a0), none]) (st' := []) (h' := (sI h1 (gR h1 a0 2) (ix (gI h1 a0 12)) 0)) rfl ?_
  refine lt_gen (X := fun h2 : MH => mX (mE mtab d) KX11_readText 14 [some (.ref a0), none] [] h2) fun h2 => ?_
  refine mX_to 2 (k' := 16) (ls' := [some (.ref a0), none]) (st' := [.int 0, .ref a0]) (h' := h2) rfl ?_
  refine mX_ck (k' := 17) (ls' := [some (.ref a0), none]) (st' := []) (h' := (sI h2 a0 13 0)) rfl ?_
  refine lt_gen (X := fun h3 : MH => mX (mE mtab d) KX11_readText 17 [some (.ref a0), none] [] h3) fun h3 => ?_
  refine mX_to 2 (k' := 19) (ls' := [some (.ref a0), none]) (st' := [.int 0, .ref a0]) (h' := h3) rfl ?_
  refine mX_ck (k' := 20) (ls' := [some (.ref a0), none]) (st' := []) (h' := (sI h3 a0 19 0)) rfl ?_
  refine lt_gen (X := fun h4 : MH => mX (mE mtab d) KX11_readText 20 [some (.ref a0), none] [] h4) fun h4 => ?_
  refine mX_to 2 (k' := 22) (ls' := [some (.ref a0), none]) (st' := [.int 0, .ref a0]) (h' := h4) rfl ?_
  refine mX_ck (k' := 23) (ls' := [some (.ref a0), none]) (st' := []) (h' := (sI h4 a0 7 0)) rfl ?_
  refine lt_gen (X := fun h5 : MH => mX (mE mtab d) KX11_readText 23 [some (.ref a0), none] [] h5) fun h5 => ?_
  refine mX_to 1 (k' := 24) (ls' := [some (.ref a0), none]) (st' := [.ref a0]) (h' := h5) rfl ?_
  refine mX_ckc (m := mcl (mE mtab d 100 [.ref a0] h5) 0 25 [some (.ref a0), none] []) rfl ?_
  refine mk_cV ?_
  intro h6
  rfl
theorem D_X11_text_20 (d : Nat) (h : MH) (l0 : Nat) (s0 : Int32) (s1 : Nat) : mX (mE mtab d) KX11_text 20 [some (.ref l0)] [.int s0, .ref s1] h = ck (kd h s1 = 12) (lt_ (sI h s1 6 s0) fun h4 => ck (kd h4 l0 = 12) (lt_ (sI h4 l0 4 0) fun h5 => ck (kd h5 l0 = 12) ((if (gI h5 l0 5) = 0 then ck (kd h5 l0 = 12) (ck ((kd h5 (gR h5 l0 0) = 20 ∨ kd h5 (gR h5 l0 0) = 24) ∧ ib (2 : Int32) (ln h5 (gR h5 l0 0))) (ck (kd h5 (gR h5 l0 0) = 20 ∧ ib (2 : Int32) (ln h5 (gR h5 l0 0))) (lt_ (sI h5 (gR h5 l0 0) (ix (2 : Int32)) ((gI h5 (gR h5 l0 0) (ix (2 : Int32))) + 1)) fun h6 => ck (kd h6 l0 = 12) (ck ((kd h6 (gR h6 l0 0) = 20 ∨ kd h6 (gR h6 l0 0) = 24) ∧ ib (2 : Int32) (ln h6 (gR h6 l0 0))) (some (.int ((gI h6 (gR h6 l0 0) (ix (2 : Int32))) - 1), h6)))))) else some (.int (-1), h5))))) := by
  refine mX_ck (k' := 21) (ls' := [some (.ref l0)]) (st' := []) (h' := (sI h s1 6 s0)) rfl ?_
  refine lt_gen (X := fun h4 : MH => mX (mE mtab d) KX11_text 21 [some (.ref l0)] [] h4) fun h4 => ?_
  refine mX_to 2 (k' := 23) (ls' := [some (.ref l0)]) (st' := [.int 0, .ref l0]) (h' := h4) rfl ?_
  refine mX_ck (k' := 24) (ls' := [some (.ref l0)]) (st' := []) (h' := (sI h4 l0 4 0)) rfl ?_
  refine lt_gen (X := fun h5 : MH => mX (mE mtab d) KX11_text 24 [some (.ref l0)] [] h5) fun h5 => ?_
  refine mX_to 1 (k' := 25) (ls' := [some (.ref l0)]) (st' := [.ref l0]) (h' := h5) rfl ?_
  refine mX_ck (k' := 26) (ls' := [some (.ref l0)]) (st' := [.int (gI h5 l0 5)]) (h' := h5) rfl ?_
  refine mX_br (t := 29) (f := 27) (ls' := [some (.ref l0)]) (st' := []) (h' := h5) rfl ?_ ?_
  · refine mX_to 1 (k' := 30) (ls' := [some (.ref l0)]) (st' := [.ref l0]) (h' := h5) rfl ?_
    refine mX_ck (k' := 31) (ls' := [some (.ref l0)]) (st' := [.ref (gR h5 l0 0)]) (h' := h5) rfl ?_
    refine mX_to 2 (k' := 33) (ls' := [some (.ref l0)]) (st' := [.int 2, .ref (gR h5 l0 0), .int 2, .ref (gR h5 l0 0)]) (h' := h5) rfl ?_
    refine mX_ck (k' := 34) (ls' := [some (.ref l0)]) (st' := [.int (gI h5 (gR h5 l0 0) (ix (2 : Int32))), .int 2, .ref (gR h5 l0 0)]) (h' := h5) rfl ?_
    refine mX_to 2 (k' := 36) (ls' := [some (.ref l0)]) (st' := [.int ((gI h5 (gR h5 l0 0) (ix (2 : Int32))) + 1), .int 2, .ref (gR h5 l0 0)]) (h' := h5) rfl ?_
    refine mX_ck (k' := 37) (ls' := [some (.ref l0)]) (st' := []) (h' := (sI h5 (gR h5 l0 0) (ix (2 : Int32)) ((gI h5 (gR h5 l0 0) (ix (2 : Int32))) + 1))) rfl ?_
    refine lt_gen (X := fun h6 : MH => mX (mE mtab d) KX11_text 37 [some (.ref l0)] [] h6) fun h6 => ?_
    refine mX_to 1 (k' := 38) (ls' := [some (.ref l0)]) (st' := [.ref l0]) (h' := h6) rfl ?_
    refine mX_ck (k' := 39) (ls' := [some (.ref l0)]) (st' := [.ref (gR h6 l0 0)]) (h' := h6) rfl ?_
    refine mX_to 1 (k' := 40) (ls' := [some (.ref l0)]) (st' := [.int 2, .ref (gR h6 l0 0)]) (h' := h6) rfl ?_
    refine mX_ck (k' := 41) (ls' := [some (.ref l0)]) (st' := [.int (gI h6 (gR h6 l0 0) (ix (2 : Int32)))]) (h' := h6) rfl ?_
    refine mX_to 2 (k' := 43) (ls' := [some (.ref l0)]) (st' := [.int ((gI h6 (gR h6 l0 0) (ix (2 : Int32))) - 1)]) (h' := h6) rfl ?_
    exact mX_reti rfl
  · refine mX_to 1 (k' := 28) (ls' := [some (.ref l0)]) (st' := [.int (-1)]) (h' := h5) rfl ?_
    exact mX_reti rfl
theorem D_X11_text (d : Nat) (h : MH) (a0 : Nat) : mE mtab (d + 1) 130 [.ref a0] h = ck (kd h a0 = 12) (ck ((kd h (gR h a0 0) = 20 ∨ kd h (gR h a0 0) = 24) ∧ ib (2 : Int32) (ln h (gR h a0 0))) ((if (gI h (gR h a0 0) (ix (2 : Int32))) = 4 then some (.int (-1), h) else ck (kd h a0 = 12) (cI (mE mtab d 129 [.ref a0] h) (fun x2 h1 => ck (kd h1 a0 = 12) (lt_ (sI h1 a0 5 x2) fun h3 => ck (kd h3 a0 = 12) ((if (gI h3 a0 5) = 0 then mX (mE mtab d) KX11_text 20 [some (.ref a0)] [.int (-1), .ref a0] h3 else ck (kd h3 a0 = 12) (mX (mE mtab d) KX11_text 20 [some (.ref a0)] [.int (gI h3 a0 8), .ref a0] h3))))))))) := by
  refine mE_eq (q := (yX11_text, cX11_text, 1, (some .int), KX11_text)) (C := KX11_text) (ls := [some (.ref a0)]) rfl rfl rfl rfl ?_
  refine mX_to 1 (k' := 1) (ls' := [some (.ref a0)]) (st' := [.ref a0]) (h' := h) rfl ?_
  refine mX_ck (k' := 2) (ls' := [some (.ref a0)]) (st' := [.ref (gR h a0 0)]) (h' := h) rfl ?_
  refine mX_to 1 (k' := 3) (ls' := [some (.ref a0)]) (st' := [.int 2, .ref (gR h a0 0)]) (h' := h) rfl ?_
  refine mX_ck (k' := 4) (ls' := [some (.ref a0)]) (st' := [.int (gI h (gR h a0 0) (ix (2 : Int32)))]) (h' := h) rfl ?_
  refine mX_to 1 (k' := 5) (ls' := [some (.ref a0)]) (st' := [.int 4, .int (gI h (gR h a0 0) (ix (2 : Int32)))]) (h' := h) rfl ?_
  refine mX_br (t := 6) (f := 8) (ls' := [some (.ref a0)]) (st' := []) (h' := h) rfl ?_ ?_
  · refine mX_to 1 (k' := 7) (ls' := [some (.ref a0)]) (st' := [.int (-1)]) (h' := h) rfl ?_
    exact mX_reti rfl
  · refine mX_to 2 (k' := 10) (ls' := [some (.ref a0)]) (st' := [.ref a0, .ref a0]) (h' := h) rfl ?_
    refine mX_ckc (m := mcl (mE mtab d 129 [.ref a0] h) 1 11 [some (.ref a0)] [.ref a0]) rfl ?_
    refine mk_cI ?_
    intro x2 h1
    refine mX_ck (k' := 12) (ls' := [some (.ref a0)]) (st' := []) (h' := (sI h1 a0 5 x2)) rfl ?_
    refine lt_gen (X := fun h3 : MH => mX (mE mtab d) KX11_text 12 [some (.ref a0)] [] h3) fun h3 => ?_
    refine mX_to 2 (k' := 14) (ls' := [some (.ref a0)]) (st' := [.ref a0, .ref a0]) (h' := h3) rfl ?_
    refine mX_ck (k' := 15) (ls' := [some (.ref a0)]) (st' := [.int (gI h3 a0 5), .ref a0]) (h' := h3) rfl ?_
    refine mX_br (t := 16) (f := 18) (ls' := [some (.ref a0)]) (st' := [.ref a0]) (h' := h3) rfl ?_ ?_
    · refine mX_to 2 (k' := 20) (ls' := [some (.ref a0)]) (st' := [.int (-1), .ref a0]) (h' := h3) rfl ?_
      rfl
    · refine mX_to 1 (k' := 19) (ls' := [some (.ref a0)]) (st' := [.ref a0, .ref a0]) (h' := h3) rfl ?_
      refine mX_ck (k' := 20) (ls' := [some (.ref a0)]) (st' := [.int (gI h3 a0 8), .ref a0]) (h' := h3) rfl ?_
      rfl
theorem D_X10_fault (d : Nat) (h : MH) (a0 : Nat) (a1 : Int32) : mE mtab (d + 1) 131 [.ref a0, .int a1] h = (if a1 = 0 then ck (kd h a0 = 11) (ck (kd h (gR h a0 4) = 5) (some (.int (gI h (gR h a0 4) 11), h))) else (if a1 = 1 then ck (kd h a0 = 11) (ck (kd h (gR h a0 4) = 5) (some (.int (gI h (gR h a0 4) 12), h))) else some (.int (-1), h))) := by
  refine mE_eq (q := (yX10_fault, cX10_fault, 2, (some .int), KX10_fault)) (C := KX10_fault) (ls := [some (.ref a0), some (.int a1)]) rfl rfl rfl rfl ?_
  refine mX_to 1 (k' := 1) (ls' := [some (.ref a0), some (.int a1)]) (st' := [.int a1]) (h' := h) rfl ?_
  refine mX_br (t := 2) (f := 6) (ls' := [some (.ref a0), some (.int a1)]) (st' := []) (h' := h) rfl ?_ ?_
  · refine mX_to 1 (k' := 3) (ls' := [some (.ref a0), some (.int a1)]) (st' := [.ref a0]) (h' := h) rfl ?_
    refine mX_ck (k' := 4) (ls' := [some (.ref a0), some (.int a1)]) (st' := [.ref (gR h a0 4)]) (h' := h) rfl ?_
    refine mX_ck (k' := 5) (ls' := [some (.ref a0), some (.int a1)]) (st' := [.int (gI h (gR h a0 4) 11)]) (h' := h) rfl ?_
    exact mX_reti rfl
  · refine mX_to 2 (k' := 8) (ls' := [some (.ref a0), some (.int a1)]) (st' := [.int 1, .int a1]) (h' := h) rfl ?_
    refine mX_br (t := 9) (f := 13) (ls' := [some (.ref a0), some (.int a1)]) (st' := []) (h' := h) rfl ?_ ?_
    · refine mX_to 1 (k' := 10) (ls' := [some (.ref a0), some (.int a1)]) (st' := [.ref a0]) (h' := h) rfl ?_
      refine mX_ck (k' := 11) (ls' := [some (.ref a0), some (.int a1)]) (st' := [.ref (gR h a0 4)]) (h' := h) rfl ?_
      refine mX_ck (k' := 12) (ls' := [some (.ref a0), some (.int a1)]) (st' := [.int (gI h (gR h a0 4) 12)]) (h' := h) rfl ?_
      refine mX_to 1 (k' := 14) (ls' := [some (.ref a0), some (.int a1)]) (st' := [.int (gI h (gR h a0 4) 12)]) (h' := h) rfl ?_
      exact mX_reti rfl
    · refine mX_to 1 (k' := 14) (ls' := [some (.ref a0), some (.int a1)]) (st' := [.int (-1)]) (h' := h) rfl ?_
      exact mX_reti rfl
