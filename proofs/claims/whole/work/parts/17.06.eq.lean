/-! EQUATIONS OF THE METHODS (written by wip/gen/dgen.py) -/
theorem D_X11_openNow (d : Nat) (h : MH) (a0 : Nat) : mE mtab (d + 1) 112 [.ref a0] h = ck (kd h a0 = 12) (cI (mE mtab d 111 [.ref a0] h) (fun x2 h1 => (if x2 < 0 then some (.int (-1), h1) else ck (kd h1 a0 = 12) (ck (kd h1 a0 = 12) (cI (mE mtab d 111 [.ref a0] h1) (fun x4 h3 => ck ((kd h3 (gR h1 a0 15) = 20 ∨ kd h3 (gR h1 a0 15) = 24) ∧ ib x4 (ln h3 (gR h1 a0 15))) (some (.int (gI h3 (gR h1 a0 15) (ix x4)), h3)))))))) := by
  refine mE_eq (q := (yX11_openNow, cX11_openNow, 1, (some .int), KX11_openNow)) (C := KX11_openNow) (ls := [some (.ref a0)]) rfl rfl rfl rfl ?_
  refine mX_to 1 (k' := 1) (ls' := [some (.ref a0)]) (st' := [.ref a0]) (h' := h) rfl ?_
  refine mX_ckc (m := mcl (mE mtab d 111 [.ref a0] h) 1 2 [some (.ref a0)] []) rfl ?_
  refine mk_cI ?_
  intro x2 h1
  refine mX_br (t := 3) (f := 5) (ls' := [some (.ref a0)]) (st' := []) (h' := h1) rfl ?_ ?_
  · refine mX_to 2 (k' := 10) (ls' := [some (.ref a0)]) (st' := [.int (-1)]) (h' := h1) rfl ?_
    exact mX_reti rfl
  · refine mX_to 1 (k' := 6) (ls' := [some (.ref a0)]) (st' := [.ref a0]) (h' := h1) rfl ?_
    refine mX_ck (k' := 7) (ls' := [some (.ref a0)]) (st' := [.ref (gR h1 a0 15)]) (h' := h1) rfl ?_
    refine mX_to 1 (k' := 8) (ls' := [some (.ref a0)]) (st' := [.ref a0, .ref (gR h1 a0 15)]) (h' := h1) rfl ?_
    refine mX_ckc (m := mcl (mE mtab d 111 [.ref a0] h1) 1 9 [some (.ref a0)] [.ref (gR h1 a0 15)]) rfl ?_
    refine mk_cI ?_
    intro x4 h3
    refine mX_ck (k' := 10) (ls' := [some (.ref a0)]) (st' := [.int (gI h3 (gR h1 a0 15) (ix x4))]) (h' := h3) rfl ?_
    exact mX_reti rfl
theorem D_X11_rank (d : Nat) (h : MH) (a0 : Int32) : mE mtab (d + 1) 113 [.int a0] h = (if a0 < 40 then (if a0 = 22 then some (.int 1, h) else (if a0 = 21 then some (.int 2, h) else (if a0 = 20 then some (.int 3, h) else (if a0 < 10 then (if a0 < 8 then (if a0 < 6 then some (.int 7, h) else some (.int 5, h)) else some (.int 6, h)) else some (.int 4, h))))) else some (.int 0, h)) := by
  refine mE_eq (q := (yX11_rank, cX11_rank, 1, (some .int), KX11_rank)) (C := KX11_rank) (ls := [some (.int a0)]) rfl rfl rfl rfl ?_
  refine mX_to 2 (k' := 2) (ls' := [some (.int a0)]) (st' := [.int 40, .int a0]) (h' := h) rfl ?_
  refine mX_br (t := 5) (f := 3) (ls' := [some (.int a0)]) (st' := []) (h' := h) rfl ?_ ?_
  · refine mX_to 2 (k' := 7) (ls' := [some (.int a0)]) (st' := [.int 22, .int a0]) (h' := h) rfl ?_
    refine mX_br (t := 8) (f := 10) (ls' := [some (.int a0)]) (st' := []) (h' := h) rfl ?_ ?_
    · refine mX_to 2 (k' := 36) (ls' := [some (.int a0)]) (st' := [.int 1]) (h' := h) rfl ?_
      exact mX_reti rfl
    · refine mX_to 2 (k' := 12) (ls' := [some (.int a0)]) (st' := [.int 21, .int a0]) (h' := h) rfl ?_
      refine mX_br (t := 13) (f := 15) (ls' := [some (.int a0)]) (st' := []) (h' := h) rfl ?_ ?_
      · refine mX_to 2 (k' := 36) (ls' := [some (.int a0)]) (st' := [.int 2]) (h' := h) rfl ?_
        exact mX_reti rfl
      · refine mX_to 2 (k' := 17) (ls' := [some (.int a0)]) (st' := [.int 20, .int a0]) (h' := h) rfl ?_
        refine mX_br (t := 18) (f := 20) (ls' := [some (.int a0)]) (st' := []) (h' := h) rfl ?_ ?_
        · refine mX_to 2 (k' := 36) (ls' := [some (.int a0)]) (st' := [.int 3]) (h' := h) rfl ?_
          exact mX_reti rfl
        · refine mX_to 2 (k' := 22) (ls' := [some (.int a0)]) (st' := [.int 10, .int a0]) (h' := h) rfl ?_
          refine mX_br (t := 25) (f := 23) (ls' := [some (.int a0)]) (st' := []) (h' := h) rfl ?_ ?_
          · refine mX_to 2 (k' := 27) (ls' := [some (.int a0)]) (st' := [.int 8, .int a0]) (h' := h) rfl ?_
            refine mX_br (t := 30) (f := 28) (ls' := [some (.int a0)]) (st' := []) (h' := h) rfl ?_ ?_
            · refine mX_to 2 (k' := 32) (ls' := [some (.int a0)]) (st' := [.int 6, .int a0]) (h' := h) rfl ?_
              refine mX_br (t := 35) (f := 33) (ls' := [some (.int a0)]) (st' := []) (h' := h) rfl ?_ ?_
              · refine mX_to 1 (k' := 36) (ls' := [some (.int a0)]) (st' := [.int 7]) (h' := h) rfl ?_
                exact mX_reti rfl
              · refine mX_to 2 (k' := 36) (ls' := [some (.int a0)]) (st' := [.int 5]) (h' := h) rfl ?_
                exact mX_reti rfl
            · refine mX_to 2 (k' := 36) (ls' := [some (.int a0)]) (st' := [.int 6]) (h' := h) rfl ?_
              exact mX_reti rfl
          · refine mX_to 2 (k' := 36) (ls' := [some (.int a0)]) (st' := [.int 4]) (h' := h) rfl ?_
            exact mX_reti rfl
  · refine mX_to 2 (k' := 36) (ls' := [some (.int a0)]) (st' := [.int 0]) (h' := h) rfl ?_
    exact mX_reti rfl
theorem D_X11_isCompared_5 (d : Nat) (h : MH) (l0 : Nat) (l1 : Int32) : mX (mE mtab d) KX11_isCompared 5 [some (.ref l0), some (.int l1)] [] h = (if l1 < 0 then mX (mE mtab d) KX11_isCompared 16 [some (.ref l0), some (.int l1)] [] h else ck (kd h l0 = 12) (ck ((kd h (gR h l0 15) = 20 ∨ kd h (gR h l0 15) = 24) ∧ ib l1 (ln h (gR h l0 15))) (cI (mE mtab d 113 [.int (gI h (gR h l0 15) (ix l1))] h) (fun x3 h2 => (if x3 ≤ 4 then mX (mE mtab d) KX11_isCompared 16 [some (.ref l0), some (.int l1)] [] h2 else mX (mE mtab d) KX11_isCompared 5 [some (.ref l0), some (.int (l1 + (-1)))] [] h2))))) := by
  refine mX_to 1 (k' := 6) (ls' := [some (.ref l0), some (.int l1)]) (st' := [.int l1]) (h' := h) rfl ?_
  refine mX_br (t := 16) (f := 7) (ls' := [some (.ref l0), some (.int l1)]) (st' := []) (h' := h) rfl ?_ ?_
  · rfl
  · refine mX_to 1 (k' := 8) (ls' := [some (.ref l0), some (.int l1)]) (st' := [.ref l0]) (h' := h) rfl ?_
    refine mX_ck (k' := 9) (ls' := [some (.ref l0), some (.int l1)]) (st' := [.ref (gR h l0 15)]) (h' := h) rfl ?_
    refine mX_to 1 (k' := 10) (ls' := [some (.ref l0), some (.int l1)]) (st' := [.int l1, .ref (gR h l0 15)]) (h' := h) rfl ?_
    refine mX_ck (k' := 11) (ls' := [some (.ref l0), some (.int l1)]) (st' := [.int (gI h (gR h l0 15) (ix l1))]) (h' := h) rfl ?_
    refine mX_cI (o := mE mtab d 113 [.int (gI h (gR h l0 15) (ix l1))] h) (k' := 12) (ls' := [some (.ref l0), some (.int l1)]) (st' := []) rfl ?_
    intro x3 h2
    refine mX_to 1 (k' := 13) (ls' := [some (.ref l0), some (.int l1)]) (st' := [.int 4, .int x3]) (h' := h2) rfl ?_
    refine mX_br (t := 16) (f := 14) (ls' := [some (.ref l0), some (.int l1)]) (st' := []) (h' := h2) rfl ?_ ?_
    · rfl
    · refine mX_to 2 (k' := 5) (ls' := [some (.ref l0), some (.int (l1 + (-1)))]) (st' := []) (h' := h2) rfl ?_
      rfl
theorem D_X11_isCompared_16 (d : Nat) (h : MH) (l0 : Nat) (l1 : Int32) : mX (mE mtab d) KX11_isCompared 16 [some (.ref l0), some (.int l1)] [] h = (if l1 < 0 then some (.int 0, h) else ck (kd h l0 = 12) (ck ((kd h (gR h l0 15) = 20 ∨ kd h (gR h l0 15) = 24) ∧ ib l1 (ln h (gR h l0 15))) (cI (mE mtab d 113 [.int (gI h (gR h l0 15) (ix l1))] h) (fun x6 h5 => (if x6 = 4 then some (.int 1, h5) else some (.int 0, h5)))))) := by
  refine mX_to 1 (k' := 17) (ls' := [some (.ref l0), some (.int l1)]) (st' := [.int l1]) (h' := h) rfl ?_
  refine mX_br (t := 27) (f := 18) (ls' := [some (.ref l0), some (.int l1)]) (st' := []) (h' := h) rfl ?_ ?_
  · refine mX_to 1 (k' := 28) (ls' := [some (.ref l0), some (.int l1)]) (st' := [.int 0]) (h' := h) rfl ?_
    exact mX_retb (by decide) rfl
  · refine mX_to 1 (k' := 19) (ls' := [some (.ref l0), some (.int l1)]) (st' := [.ref l0]) (h' := h) rfl ?_
    refine mX_ck (k' := 20) (ls' := [some (.ref l0), some (.int l1)]) (st' := [.ref (gR h l0 15)]) (h' := h) rfl ?_
    refine mX_to 1 (k' := 21) (ls' := [some (.ref l0), some (.int l1)]) (st' := [.int l1, .ref (gR h l0 15)]) (h' := h) rfl ?_
    refine mX_ck (k' := 22) (ls' := [some (.ref l0), some (.int l1)]) (st' := [.int (gI h (gR h l0 15) (ix l1))]) (h' := h) rfl ?_
    refine mX_cI (o := mE mtab d 113 [.int (gI h (gR h l0 15) (ix l1))] h) (k' := 23) (ls' := [some (.ref l0), some (.int l1)]) (st' := []) rfl ?_
    intro x6 h5
    refine mX_to 1 (k' := 24) (ls' := [some (.ref l0), some (.int l1)]) (st' := [.int 4, .int x6]) (h' := h5) rfl ?_
    refine mX_br (t := 25) (f := 27) (ls' := [some (.ref l0), some (.int l1)]) (st' := []) (h' := h5) rfl ?_ ?_
    · refine mX_to 2 (k' := 28) (ls' := [some (.ref l0), some (.int l1)]) (st' := [.int 1]) (h' := h5) rfl ?_
      exact mX_retb (by decide) rfl
    · refine mX_to 1 (k' := 28) (ls' := [some (.ref l0), some (.int l1)]) (st' := [.int 0]) (h' := h5) rfl ?_
      exact mX_retb (by decide) rfl
theorem D_X11_isCompared (d : Nat) (h : MH) (a0 : Nat) : mE mtab (d + 1) 114 [.ref a0] h = ck (kd h a0 = 12) (lt_ ((gI h a0 16) - 1) fun v1 => mX (mE mtab d) KX11_isCompared 5 [some (.ref a0), some (.int v1)] [] h) := by
  refine mE_eq (q := (yX11_isCompared, cX11_isCompared, 2, (some .boolean), KX11_isCompared)) (C := KX11_isCompared) (ls := [some (.ref a0), none]) rfl rfl rfl rfl ?_
  refine mX_to 1 (k' := 1) (ls' := [some (.ref a0), none]) (st' := [.ref a0]) (h' := h) rfl ?_
  refine mX_ck (k' := 2) (ls' := [some (.ref a0), none]) (st' := [.int (gI h a0 16)]) (h' := h) rfl ?_
  refine mX_to 2 (k' := 4) (ls' := [some (.ref a0), none]) (st' := [.int ((gI h a0 16) - 1)]) (h' := h) rfl ?_
  refine lt_gen (X := fun v1 : Int32 => mX (mE mtab d) KX11_isCompared 4 [some (.ref a0), none] [.int v1] h) fun v1 => ?_
  refine mX_to 1 (k' := 5) (ls' := [some (.ref a0), some (.int v1)]) (st' := []) (h' := h) rfl ?_
  rfl
theorem D_X11_compareOf (d : Nat) (h : MH) (a0 : Nat) : mE mtab (d + 1) 115 [.ref a0] h = ck (kd h a0 = 12) ((if (gI h a0 9) = 60 then some (.int 10, h) else ck (kd h a0 = 12) ((if (gI h a0 9) = 4 then some (.int 11, h) else ck (kd h a0 = 12) ((if (gI h a0 9) = 62 then some (.int 12, h) else ck (kd h a0 = 12) ((if (gI h a0 9) = 5 then some (.int 13, h) else ck (kd h a0 = 12) ((if (gI h a0 9) = 61 then some (.int 14, h) else ck (kd h a0 = 12) ((if (gI h a0 9) = 35 then some (.int 15, h) else some (.int (-1), h))))))))))))) := by
  refine mE_eq (q := (yX11_compareOf, cX11_compareOf, 1, (some .int), KX11_compareOf)) (C := KX11_compareOf) (ls := [some (.ref a0)]) rfl rfl rfl rfl ?_
  refine mX_to 1 (k' := 1) (ls' := [some (.ref a0)]) (st' := [.ref a0]) (h' := h) rfl ?_
  refine mX_ck (k' := 2) (ls' := [some (.ref a0)]) (st' := [.int (gI h a0 9)]) (h' := h) rfl ?_
  refine mX_to 1 (k' := 3) (ls' := [some (.ref a0)]) (st' := [.int 60, .int (gI h a0 9)]) (h' := h) rfl ?_
  refine mX_br (t := 4) (f := 6) (ls' := [some (.ref a0)]) (st' := []) (h' := h) rfl ?_ ?_
  · refine mX_to 2 (k' := 37) (ls' := [some (.ref a0)]) (st' := [.int 10]) (h' := h) rfl ?_
    exact mX_reti rfl
  · refine mX_to 1 (k' := 7) (ls' := [some (.ref a0)]) (st' := [.ref a0]) (h' := h) rfl ?_
    refine mX_ck (k' := 8) (ls' := [some (.ref a0)]) (st' := [.int (gI h a0 9)]) (h' := h) rfl ?_
    refine mX_to 1 (k' := 9) (ls' := [some (.ref a0)]) (st' := [.int 4, .int (gI h a0 9)]) (h' := h) rfl ?_
    refine mX_br (t := 10) (f := 12) (ls' := [some (.ref a0)]) (st' := []) (h' := h) rfl ?_ ?_
    · refine mX_to 2 (k' := 37) (ls' := [some (.ref a0)]) (st' := [.int 11]) (h' := h) rfl ?_
      exact mX_reti rfl
    · refine mX_to 1 (k' := 13) (ls' := [some (.ref a0)]) (st' := [.ref a0]) (h' := h) rfl ?_
      refine mX_ck (k' := 14) (ls' := [some (.ref a0)]) (st' := [.int (gI h a0 9)]) (h' := h) rfl ?_
      refine mX_to 1 (k' := 15) (ls' := [some (.ref a0)]) (st' := [.int 62, .int (gI h a0 9)]) (h' := h) rfl ?_
      refine mX_br (t := 16) (f := 18) (ls' := [some (.ref a0)]) (st' := []) (h' := h) rfl ?_ ?_
      · refine mX_to 2 (k' := 37) (ls' := [some (.ref a0)]) (st' := [.int 12]) (h' := h) rfl ?_
        exact mX_reti rfl
      · refine mX_to 1 (k' := 19) (ls' := [some (.ref a0)]) (st' := [.ref a0]) (h' := h) rfl ?_
        refine mX_ck (k' := 20) (ls' := [some (.ref a0)]) (st' := [.int (gI h a0 9)]) (h' := h) rfl ?_
        refine mX_to 1 (k' := 21) (ls' := [some (.ref a0)]) (st' := [.int 5, .int (gI h a0 9)]) (h' := h) rfl ?_
        refine mX_br (t := 22) (f := 24) (ls' := [some (.ref a0)]) (st' := []) (h' := h) rfl ?_ ?_
        · refine mX_to 2 (k' := 37) (ls' := [some (.ref a0)]) (st' := [.int 13]) (h' := h) rfl ?_
          exact mX_reti rfl
        · refine mX_to 1 (k' := 25) (ls' := [some (.ref a0)]) (st' := [.ref a0]) (h' := h) rfl ?_
          refine mX_ck (k' := 26) (ls' := [some (.ref a0)]) (st' := [.int (gI h a0 9)]) (h' := h) rfl ?_
          refine mX_to 1 (k' := 27) (ls' := [some (.ref a0)]) (st' := [.int 61, .int (gI h a0 9)]) (h' := h) rfl ?_
          refine mX_br (t := 28) (f := 30) (ls' := [some (.ref a0)]) (st' := []) (h' := h) rfl ?_ ?_
          · refine mX_to 2 (k' := 37) (ls' := [some (.ref a0)]) (st' := [.int 14]) (h' := h) rfl ?_
            exact mX_reti rfl
          · refine mX_to 1 (k' := 31) (ls' := [some (.ref a0)]) (st' := [.ref a0]) (h' := h) rfl ?_
            refine mX_ck (k' := 32) (ls' := [some (.ref a0)]) (st' := [.int (gI h a0 9)]) (h' := h) rfl ?_
            refine mX_to 1 (k' := 33) (ls' := [some (.ref a0)]) (st' := [.int 35, .int (gI h a0 9)]) (h' := h) rfl ?_
            refine mX_br (t := 34) (f := 36) (ls' := [some (.ref a0)]) (st' := []) (h' := h) rfl ?_ ?_
            · refine mX_to 2 (k' := 37) (ls' := [some (.ref a0)]) (st' := [.int 15]) (h' := h) rfl ?_
              exact mX_reti rfl
            · refine mX_to 1 (k' := 37) (ls' := [some (.ref a0)]) (st' := [.int (-1)]) (h' := h) rfl ?_
              exact mX_reti rfl
theorem D_X11_betweenOf (d : Nat) (h : MH) (a0 : Nat) : mE mtab (d + 1) 116 [.ref a0] h = ck (kd h a0 = 12) ((if (gI h a0 9) = 43 then some (.int 6, h) else ck (kd h a0 = 12) ((if (gI h a0 9) = 45 then some (.int 7, h) else ck (kd h a0 = 12) ((if (gI h a0 9) = 42 then some (.int 8, h) else ck (kd h a0 = 12) ((if (gI h a0 9) = 47 then some (.int 9, h) else ck (kd h a0 = 12) (cI (mE mtab d 112 [.ref a0] h) (fun x2 h1 => (if x2 = 41 then ck (kd h1 a0 = 12) (cI (mE mtab d 114 [.ref a0] h1) (fun x4 h3 => (if x4 = 0 then ck (kd h3 a0 = 12) (cI (mE mtab d 115 [.ref a0] h3) (fun x6 h5 => some (.int x6, h5))) else cL (mE mtab d 102 [.int 97, .int 110, .int 100] h3) (fun x8 h7 => ck (kd h7 a0 = 12) (cI (mE mtab d 104 [.ref a0, .long x8] h7) (fun x10 h9 => (if x10 = 0 then cL (mE mtab d 101 [.int 111, .int 114] h9) (fun x12 h11 => ck (kd h11 a0 = 12) (cI (mE mtab d 104 [.ref a0, .long x12] h11) (fun x14 h13 => (if x14 = 0 then some (.int (-1), h13) else some (.int 22, h13))))) else some (.int 21, h9)))))))) else some (.int (-1), h1)))))))))))) := by
  refine mE_eq (q := (yX11_betweenOf, cX11_betweenOf, 1, (some .int), KX11_betweenOf)) (C := KX11_betweenOf) (ls := [some (.ref a0)]) rfl rfl rfl rfl ?_
  refine mX_to 1 (k' := 1) (ls' := [some (.ref a0)]) (st' := [.ref a0]) (h' := h) rfl ?_
  refine mX_ck (k' := 2) (ls' := [some (.ref a0)]) (st' := [.int (gI h a0 9)]) (h' := h) rfl ?_
  refine mX_to 1 (k' := 3) (ls' := [some (.ref a0)]) (st' := [.int 43, .int (gI h a0 9)]) (h' := h) rfl ?_
  refine mX_br (t := 4) (f := 6) (ls' := [some (.ref a0)]) (st' := []) (h' := h) rfl ?_ ?_
  · refine mX_to 1 (k' := 5) (ls' := [some (.ref a0)]) (st' := [.int 6]) (h' := h) rfl ?_
    exact mX_reti rfl
  · refine mX_to 1 (k' := 7) (ls' := [some (.ref a0)]) (st' := [.ref a0]) (h' := h) rfl ?_
    refine mX_ck (k' := 8) (ls' := [some (.ref a0)]) (st' := [.int (gI h a0 9)]) (h' := h) rfl ?_
    refine mX_to 1 (k' := 9) (ls' := [some (.ref a0)]) (st' := [.int 45, .int (gI h a0 9)]) (h' := h) rfl ?_
    refine mX_br (t := 10) (f := 12) (ls' := [some (.ref a0)]) (st' := []) (h' := h) rfl ?_ ?_
    · refine mX_to 1 (k' := 11) (ls' := [some (.ref a0)]) (st' := [.int 7]) (h' := h) rfl ?_
      exact mX_reti rfl
    · refine mX_to 1 (k' := 13) (ls' := [some (.ref a0)]) (st' := [.ref a0]) (h' := h) rfl ?_
      refine mX_ck (k' := 14) (ls' := [some (.ref a0)]) (st' := [.int (gI h a0 9)]) (h' := h) rfl ?_
      refine mX_to 1 (k' := 15) (ls' := [some (.ref a0)]) (st' := [.int 42, .int (gI h a0 9)]) (h' := h) rfl ?_
      refine mX_br (t := 16) (f := 18) (ls' := [some (.ref a0)]) (st' := []) (h' := h) rfl ?_ ?_
      · refine mX_to 1 (k' := 17) (ls' := [some (.ref a0)]) (st' := [.int 8]) (h' := h) rfl ?_
        exact mX_reti rfl
      · refine mX_to 1 (k' := 19) (ls' := [some (.ref a0)]) (st' := [.ref a0]) (h' := h) rfl ?_
        refine mX_ck (k' := 20) (ls' := [some (.ref a0)]) (st' := [.int (gI h a0 9)]) (h' := h) rfl ?_
        refine mX_to 1 (k' := 21) (ls' := [some (.ref a0)]) (st' := [.int 47, .int (gI h a0 9)]) (h' := h) rfl ?_
        refine mX_br (t := 22) (f := 24) (ls' := [some (.ref a0)]) (st' := []) (h' := h) rfl ?_ ?_
        · refine mX_to 1 (k' := 23) (ls' := [some (.ref a0)]) (st' := [.int 9]) (h' := h) rfl ?_
          exact mX_reti rfl
        · refine mX_to 1 (k' := 25) (ls' := [some (.ref a0)]) (st' := [.ref a0]) (h' := h) rfl ?_
          refine mX_ckc (m := mcl (mE mtab d 112 [.ref a0] h) 1 26 [some (.ref a0)] []) rfl ?_
          refine mk_cI ?_
          intro x2 h1
          refine mX_to 1 (k' := 27) (ls' := [some (.ref a0)]) (st' := [.int 41, .int x2]) (h' := h1) rfl ?_
          refine mX_br (t := 30) (f := 28) (ls' := [some (.ref a0)]) (st' := []) (h' := h1) rfl ?_ ?_
          · refine mX_to 1 (k' := 31) (ls' := [some (.ref a0)]) (st' := [.ref a0]) (h' := h1) rfl ?_
            refine mX_ckc (m := mcl (mE mtab d 114 [.ref a0] h1) 1 32 [some (.ref a0)] []) rfl ?_
            refine mk_cI ?_
            intro x4 h3
            refine mX_br (t := 33) (f := 36) (ls' := [some (.ref a0)]) (st' := []) (h' := h3) rfl ?_ ?_
            · refine mX_to 1 (k' := 34) (ls' := [some (.ref a0)]) (st' := [.ref a0]) (h' := h3) rfl ?_
              refine mX_ckc (m := mcl (mE mtab d 115 [.ref a0] h3) 1 35 [some (.ref a0)] []) rfl ?_
              refine mk_cI ?_
              intro x6 h5
              exact mX_reti rfl
            · refine mX_to 4 (k' := 40) (ls' := [some (.ref a0)]) (st' := [.int 100, .int 110, .int 97, .ref a0]) (h' := h3) rfl ?_
              refine mX_cL (o := mE mtab d 102 [.int 97, .int 110, .int 100] h3) (k' := 41) (ls' := [some (.ref a0)]) (st' := [.ref a0]) rfl ?_
              intro x8 h7
              refine mX_ckc (m := mcl (mE mtab d 104 [.ref a0, .long x8] h7) 1 42 [some (.ref a0)] []) rfl ?_
              refine mk_cI ?_
              intro x10 h9
              refine mX_br (t := 45) (f := 43) (ls' := [some (.ref a0)]) (st' := []) (h' := h9) rfl ?_ ?_
              · refine mX_to 3 (k' := 48) (ls' := [some (.ref a0)]) (st' := [.int 114, .int 111, .ref a0]) (h' := h9) rfl ?_
                refine mX_cL (o := mE mtab d 101 [.int 111, .int 114] h9) (k' := 49) (ls' := [some (.ref a0)]) (st' := [.ref a0]) rfl ?_
                intro x12 h11
                refine mX_ckc (m := mcl (mE mtab d 104 [.ref a0, .long x12] h11) 1 50 [some (.ref a0)] []) rfl ?_
                refine mk_cI ?_
                intro x14 h13
                refine mX_br (t := 53) (f := 51) (ls' := [some (.ref a0)]) (st' := []) (h' := h13) rfl ?_ ?_
                · refine mX_to 1 (k' := 54) (ls' := [some (.ref a0)]) (st' := [.int (-1)]) (h' := h13) rfl ?_
                  exact mX_reti rfl
                · refine mX_to 2 (k' := 54) (ls' := [some (.ref a0)]) (st' := [.int 22]) (h' := h13) rfl ?_
                  exact mX_reti rfl
              · refine mX_to 2 (k' := 54) (ls' := [some (.ref a0)]) (st' := [.int 21]) (h' := h9) rfl ?_
                exact mX_reti rfl
          · refine mX_to 1 (k' := 29) (ls' := [some (.ref a0)]) (st' := [.int (-1)]) (h' := h1) rfl ?_
            exact mX_reti rfl
theorem D_X11_emit (d : Nat) (h : MH) (a0 : Nat) (a1 : Int32) (a2 : Int32) : mE mtab (d + 1) 117 [.ref a0, .int a1, .int a2] h = ck (kd h a0 = 12) (ck (kd h a0 = 12) (ck (kd h a0 = 12) (ck (kd h (gR h a0 2) = 20 ∧ ib (((gI h a0 12) + 73) + (2 * (gI h a0 13))) (ln h (gR h a0 2))) (lt_ (sI h (gR h a0 2) (ix (((gI h a0 12) + 73) + (2 * (gI h a0 13)))) a1) fun h1 => ck (kd h1 a0 = 12) (ck (kd h1 a0 = 12) (ck (kd h1 a0 = 12) (ck (kd h1 (gR h1 a0 2) = 20 ∧ ib ((((gI h1 a0 12) + 73) + (2 * (gI h1 a0 13))) + 1) (ln h1 (gR h1 a0 2))) (lt_ (sI h1 (gR h1 a0 2) (ix ((((gI h1 a0 12) + 73) + (2 * (gI h1 a0 13))) + 1)) a2) fun h2 => ck (kd h2 a0 = 12) (ck (kd h2 a0 = 12) (lt_ (sI h2 a0 13 ((gI h2 a0 13) + 1)) fun h3 => some (.int 0, h3))))))))))) := by
  refine mE_eq (q := (yX11_emit, cX11_emit, 3, none, KX11_emit)) (C := KX11_emit) (ls := [some (.ref a0), some (.int a1), some (.int a2)]) rfl rfl rfl rfl ?_
  refine mX_to 1 (k' := 1) (ls' := [some (.ref a0), some (.int a1), some (.int a2)]) (st' := [.ref a0]) (h' := h) rfl ?_
  refine mX_ck (k' := 2) (ls' := [some (.ref a0), some (.int a1), some (.int a2)]) (st' := [.ref (gR h a0 2)]) (h' := h) rfl ?_
  refine mX_to 1 (k' := 3) (ls' := [some (.ref a0), some (.int a1), some (.int a2)]) (st' := [.ref a0, .ref (gR h a0 2)]) (h' := h) rfl ?_
  refine mX_ck (k' := 4) (ls' := [some (.ref a0), some (.int a1), some (.int a2)]) (st' := [.int (gI h a0 12), .ref (gR h a0 2)]) (h' := h) rfl ?_
  refine mX_to 4 (k' := 8) (ls' := [some (.ref a0), some (.int a1), some (.int a2)]) (st' := [.ref a0, .int 2, .int ((gI h a0 12) + 73), .ref (gR h a0 2)]) (h' := h) rfl ?_
  refine mX_ck (k' := 9) (ls' := [some (.ref a0), some (.int a1), some (.int a2)]) (st' := [.int (gI h a0 13), .int 2, .int ((gI h a0 12) + 73), .ref (gR h a0 2)]) (h' := h) rfl ?_
  refine mX_to 3 (k' := 12) (ls' := [some (.ref a0), some (.int a1), some (.int a2)]) (st' := [.int a1, .int (((gI h a0 12) + 73) + (2 * (gI h a0 13))), .ref (gR h a0 2)]) (h' := h) rfl ?_
  refine mX_ck (k' := 13) (ls' := [some (.ref a0), some (.int a1), some (.int a2)]) (st' := []) (h' := (sI h (gR h a0 2) (ix (((gI h a0 12) + 73) + (2 * (gI h a0 13)))) a1)) rfl ?_
  refine lt_gen (X := fun h1 : MH => mX (mE mtab d) KX11_emit 13 [some (.ref a0), some (.int a1), some (.int a2)] [] h1) fun h1 => ?_
  refine mX_to 1 (k' := 14) (ls' := [some (.ref a0), some (.int a1), some (.int a2)]) (st' := [.ref a0]) (h' := h1) rfl ?_
  refine mX_ck (k' := 15) (ls' := [some (.ref a0), some (.int a1), some (.int a2)]) (st' := [.ref (gR h1 a0 2)]) (h' := h1) rfl ?_
  refine mX_to 1 (k' := 16) (ls' := [some (.ref a0), some (.int a1), some (.int a2)]) (st' := [.ref a0, .ref (gR h1 a0 2)]) (h' := h1) rfl ?_
  refine mX_ck (k' := 17) (ls' := [some (.ref a0), some (.int a1), some (.int a2)]) (st' := [.int (gI h1 a0 12), .ref (gR h1 a0 2)]) (h' := h1) rfl ?_
  refine mX_to 4 (k' := 21) (ls' := [some (.ref a0), some (.int a1), some (.int a2)]) (st' := [.ref a0, .int 2, .int ((gI h1 a0 12) + 73), .ref (gR h1 a0 2)]) (h' := h1) rfl ?_
  refine mX_ck (k' := 22) (ls' := [some (.ref a0), some (.int a1), some (.int a2)]) (st' := [.int (gI h1 a0 13), .int 2, .int ((gI h1 a0 12) + 73), .ref (gR h1 a0 2)]) (h' := h1) rfl ?_
  refine mX_to 5 (k' := 27) (ls' := [some (.ref a0), some (.int a1), some (.int a2)]) (st' := [.int a2, .int ((((gI h1 a0 12) + 73) + (2 * (gI h1 a0 13))) + 1), .ref (gR h1 a0 2)]) (h' := h1) rfl ?_
  refine mX_ck (k' := 28) (ls' := [some (.ref a0), some (.int a1), some (.int a2)]) (st' := []) (h' := (sI h1 (gR h1 a0 2) (ix ((((gI h1 a0 12) + 73) + (2 * (gI h1 a0 13))) + 1)) a2)) rfl ?_
  refine lt_gen (X := fun h2 : MH => mX (mE mtab d) KX11_emit 28 [some (.ref a0), some (.int a1), some (.int a2)] [] h2) fun h2 => ?_
  refine mX_to 2 (k' := 30) (ls' := [some (.ref a0), some (.int a1), some (.int a2)]) (st' := [.ref a0, .ref a0]) (h' := h2) rfl ?_
  refine mX_ck (k' := 31) (ls' := [some (.ref a0), some (.int a1), some (.int a2)]) (st' := [.int (gI h2 a0 13), .ref a0]) (h' := h2) rfl ?_
  refine mX_to 2 (k' := 33) (ls' := [some (.ref a0), some (.int a1), some (.int a2)]) (st' := [.int ((gI h2 a0 13) + 1), .ref a0]) (h' := h2) rfl ?_
  refine mX_ck (k' := 34) (ls' := [some (.ref a0), some (.int a1), some (.int a2)]) (st' := []) (h' := (sI h2 a0 13 ((gI h2 a0 13) + 1))) rfl ?_
  refine lt_gen (X := fun h3 : MH => mX (mE mtab d) KX11_emit 34 [some (.ref a0), some (.int a1), some (.int a2)] [] h3) fun h3 => ?_
  exact mX_ret rfl
theorem D_X11_settle_42 (d : Nat) (h : MH) (l0 : Nat) (l1 : Int32) : mX (mE mtab d) KX11_settle 42 [some (.ref l0), some (.int l1)] [] h = ck (kd h l0 = 12) (ck (kd h l0 = 12) (lt_ (sI h l0 17 ((gI h l0 17) - 1)) fun h7 => mX (mE mtab d) KX11_settle 0 [some (.ref l0), some (.int l1)] [] h7)) := by
  refine mX_to 2 (k' := 44) (ls' := [some (.ref l0), some (.int l1)]) (st' := [.ref l0, .ref l0]) (h' := h) rfl ?_
  refine mX_ck (k' := 45) (ls' := [some (.ref l0), some (.int l1)]) (st' := [.int (gI h l0 17), .ref l0]) (h' := h) rfl ?_
  refine mX_to 2 (k' := 47) (ls' := [some (.ref l0), some (.int l1)]) (st' := [.int ((gI h l0 17) - 1), .ref l0]) (h' := h) rfl ?_
  refine mX_ck (k' := 48) (ls' := [some (.ref l0), some (.int l1)]) (st' := []) (h' := (sI h l0 17 ((gI h l0 17) - 1))) rfl ?_
  refine lt_gen (X := fun h7 : MH => mX (mE mtab d) KX11_settle 48 [some (.ref l0), some (.int l1)] [] h7) fun h7 => ?_
  refine mX_to 1 (k' := 0) (ls' := [some (.ref l0), some (.int l1)]) (st' := []) (h' := h7) rfl ?_
  rfl
theorem D_X11_settle_0 (d : Nat) (h : MH) (l0 : Nat) (l1 : Int32) : mX (mE mtab d) KX11_settle 0 [some (.ref l0), some (.int l1)] [] h = ck (kd h l0 = 12) ((if (gI h l0 16) ≤ 0 then some (.int 0, h) else ck (kd h l0 = 12) (ck (kd h l0 = 12) (ck ((kd h (gR h l0 15) = 20 ∨ kd h (gR h l0 15) = 24) ∧ ib ((gI h l0 16) - 1) (ln h (gR h l0 15))) (cI (mE mtab d 113 [.int (gI h (gR h l0 15) (ix ((gI h l0 16) - 1)))] h) (fun x9 h8 => (if x9 < l1 then some (.int 0, h8) else ck (kd h8 l0 = 12) (ck (kd h8 l0 = 12) (lt_ (sI h8 l0 16 ((gI h8 l0 16) - 1)) fun h10 => ck (kd h10 l0 = 12) (ck (kd h10 l0 = 12) (ck ((kd h10 (gR h10 l0 15) = 20 ∨ kd h10 (gR h10 l0 15) = 24) ∧ ib (gI h10 l0 16) (ln h10 (gR h10 l0 15))) (ck (kd h10 l0 = 12) (cV (mE mtab d 117 [.ref l0, .int (gI h10 (gR h10 l0 15) (ix (gI h10 l0 16))), .int 0] h10) (fun h11 => ck (kd h11 l0 = 12) (ck (kd h11 l0 = 12) (ck ((kd h11 (gR h11 l0 15) = 20 ∨ kd h11 (gR h11 l0 15) = 24) ∧ ib (gI h11 l0 16) (ln h11 (gR h11 l0 15))) (cI (mE mtab d 113 [.int (gI h11 (gR h11 l0 15) (ix (gI h11 l0 16)))] h11) (fun x13 h12 => (if x13 = 7 then mX (mE mtab d) KX11_settle 42 [some (.ref l0), some (.int l1)] [] h12 else ck (kd h12 l0 = 12) (ck (kd h12 l0 = 12) (ck ((kd h12 (gR h12 l0 15) = 20 ∨ kd h12 (gR h12 l0 15) = 24) ∧ ib (gI h12 l0 16) (ln h12 (gR h12 l0 15))) ((if (gI h12 (gR h12 l0 15) (ix (gI h12 l0 16))) = 20 then mX (mE mtab d) KX11_settle 42 [some (.ref l0), some (.int l1)] [] h12 else mX (mE mtab d) KX11_settle 0 [some (.ref l0), some (.int l1)] [] h12))))))))))))))))))))))) := by
  refine mX_to 1 (k' := 1) (ls' := [some (.ref l0), some (.int l1)]) (st' := [.ref l0]) (h' := h) rfl ?_
  refine mX_ck (k' := 2) (ls' := [some (.ref l0), some (.int l1)]) (st' := [.int (gI h l0 16)]) (h' := h) rfl ?_
  refine mX_br (t := 49) (f := 3) (ls' := [some (.ref l0), some (.int l1)]) (st' := []) (h' := h) rfl ?_ ?_
  · exact mX_ret rfl
  · refine mX_to 1 (k' := 4) (ls' := [some (.ref l0), some (.int l1)]) (st' := [.ref l0]) (h' := h) rfl ?_
    refine mX_ck (k' := 5) (ls' := [some (.ref l0), some (.int l1)]) (st' := [.ref (gR h l0 15)]) (h' := h) rfl ?_
    refine mX_to 1 (k' := 6) (ls' := [some (.ref l0), some (.int l1)]) (st' := [.ref l0, .ref (gR h l0 15)]) (h' := h) rfl ?_
    refine mX_ck (k' := 7) (ls' := [some (.ref l0), some (.int l1)]) (st' := [.int (gI h l0 16), .ref (gR h l0 15)]) (h' := h) rfl ?_
    refine mX_to 2 (k' := 9) (ls' := [some (.ref l0), some (.int l1)]) (st' := [.int ((gI h l0 16) - 1), .ref (gR h l0 15)]) (h' := h) rfl ?_
    refine mX_ck (k' := 10) (ls' := [some (.ref l0), some (.int l1)]) (st' := [.int (gI h (gR h l0 15) (ix ((gI h l0 16) - 1)))]) (h' := h) rfl ?_
    refine mX_cI (o := mE mtab d 113 [.int (gI h (gR h l0 15) (ix ((gI h l0 16) - 1)))] h) (k' := 11) (ls' := [some (.ref l0), some (.int l1)]) (st' := []) rfl ?_
    intro x9 h8
    refine mX_to 1 (k' := 12) (ls' := [some (.ref l0), some (.int l1)]) (st' := [.int l1, .int x9]) (h' := h8) rfl ?_
    refine mX_br (t := 49) (f := 13) (ls' := [some (.ref l0), some (.int l1)]) (st' := []) (h' := h8) rfl ?_ ?_
    · exact mX_ret rfl
    · refine mX_to 2 (k' := 15) (ls' := [some (.ref l0), some (.int l1)]) (st' := [.ref l0, .ref l0]) (h' := h8) rfl ?_
      refine mX_ck (k' := 16) (ls' := [some (.ref l0), some (.int l1)]) (st' := [.int (gI h8 l0 16), .ref l0]) (h' := h8) rfl ?_
      refine mX_to 2 (k' := 18) (ls' := [some (.ref l0), some (.int l1)]) (st' := [.int ((gI h8 l0 16) - 1), .ref l0]) (h' := h8) rfl ?_
      refine mX_ck (k' := 19) (ls' := [some (.ref l0), some (.int l1)]) (st' := []) (h' := (sI h8 l0 16 ((gI h8 l0 16) - 1))) rfl ?_
      refine lt_gen (X := fun h10 : MH => mX (mE mtab d) KX11_settle 19 [some (.ref l0), some (.int l1)] [] h10) fun h10 => ?_
      refine mX_to 2 (k' := 21) (ls' := [some (.ref l0), some (.int l1)]) (st' := [.ref l0, .ref l0]) (h' := h10) rfl ?_
      refine mX_ck (k' := 22) (ls' := [some (.ref l0), some (.int l1)]) (st' := [.ref (gR h10 l0 15), .ref l0]) (h' := h10) rfl ?_
      refine mX_to 1 (k' := 23) (ls' := [some (.ref l0), some (.int l1)]) (st' := [.ref l0, .ref (gR h10 l0 15), .ref l0]) (h' := h10) rfl ?_
      refine mX_ck (k' := 24) (ls' := [some (.ref l0), some (.int l1)]) (st' := [.int (gI h10 l0 16), .ref (gR h10 l0 15), .ref l0]) (h' := h10) rfl ?_
      refine mX_ck (k' := 25) (ls' := [some (.ref l0), some (.int l1)]) (st' := [.int (gI h10 (gR h10 l0 15) (ix (gI h10 l0 16))), .ref l0]) (h' := h10) rfl ?_
      refine mX_to 1 (k' := 26) (ls' := [some (.ref l0), some (.int l1)]) (st' := [.int 0, .int (gI h10 (gR h10 l0 15) (ix (gI h10 l0 16))), .ref l0]) (h' := h10) rfl ?_
      refine mX_ckc (m := mcl (mE mtab d 117 [.ref l0, .int (gI h10 (gR h10 l0 15) (ix (gI h10 l0 16))), .int 0] h10) 0 27 [some (.ref l0), some (.int l1)] []) rfl ?_
      refine mk_cV ?_
      intro h11
      refine mX_to 1 (k' := 28) (ls' := [some (.ref l0), some (.int l1)]) (st' := [.ref l0]) (h' := h11) rfl ?_
      refine mX_ck (k' := 29) (ls' := [some (.ref l0), some (.int l1)]) (st' := [.ref (gR h11 l0 15)]) (h' := h11) rfl ?_
      refine mX_to 1 (k' := 30) (ls' := [some (.ref l0), some (.int l1)]) (st' := [.ref l0, .ref (gR h11 l0 15)]) (h' := h11) rfl ?_
      refine mX_ck (k' := 31) (ls' := [some (.ref l0), some (.int l1)]) (st' := [.int (gI h11 l0 16), .ref (gR h11 l0 15)]) (h' := h11) rfl ?_
      refine mX_ck (k' := 32) (ls' := [some (.ref l0), some (.int l1)]) (st' := [.int (gI h11 (gR h11 l0 15) (ix (gI h11 l0 16)))]) (h' := h11) rfl ?_
      refine mX_cI (o := mE mtab d 113 [.int (gI h11 (gR h11 l0 15) (ix (gI h11 l0 16)))] h11) (k' := 33) (ls' := [some (.ref l0), some (.int l1)]) (st' := []) rfl ?_
      intro x13 h12
      refine mX_to 1 (k' := 34) (ls' := [some (.ref l0), some (.int l1)]) (st' := [.int 7, .int x13]) (h' := h12) rfl ?_
      refine mX_br (t := 42) (f := 35) (ls' := [some (.ref l0), some (.int l1)]) (st' := []) (h' := h12) rfl ?_ ?_
      · rfl
      · refine mX_to 1 (k' := 36) (ls' := [some (.ref l0), some (.int l1)]) (st' := [.ref l0]) (h' := h12) rfl ?_
        refine mX_ck (k' := 37) (ls' := [some (.ref l0), some (.int l1)]) (st' := [.ref (gR h12 l0 15)]) (h' := h12) rfl ?_
        refine mX_to 1 (k' := 38) (ls' := [some (.ref l0), some (.int l1)]) (st' := [.ref l0, .ref (gR h12 l0 15)]) (h' := h12) rfl ?_
        refine mX_ck (k' := 39) (ls' := [some (.ref l0), some (.int l1)]) (st' := [.int (gI h12 l0 16), .ref (gR h12 l0 15)]) (h' := h12) rfl ?_
        refine mX_ck (k' := 40) (ls' := [some (.ref l0), some (.int l1)]) (st' := [.int (gI h12 (gR h12 l0 15) (ix (gI h12 l0 16)))]) (h' := h12) rfl ?_
        refine mX_to 1 (k' := 41) (ls' := [some (.ref l0), some (.int l1)]) (st' := [.int 20, .int (gI h12 (gR h12 l0 15) (ix (gI h12 l0 16)))]) (h' := h12) rfl ?_
        refine mX_br (t := 42) (f := 0) (ls' := [some (.ref l0), some (.int l1)]) (st' := []) (h' := h12) rfl ?_ ?_
        · rfl
        · rfl
theorem D_X11_settle (d : Nat) (h : MH) (a0 : Nat) (a1 : Int32) : mE mtab (d + 1) 118 [.ref a0, .int a1] h = ck (kd h a0 = 12) ((if (gI h a0 16) ≤ 0 then some (.int 0, h) else ck (kd h a0 = 12) (ck (kd h a0 = 12) (ck ((kd h (gR h a0 15) = 20 ∨ kd h (gR h a0 15) = 24) ∧ ib ((gI h a0 16) - 1) (ln h (gR h a0 15))) (cI (mE mtab d 113 [.int (gI h (gR h a0 15) (ix ((gI h a0 16) - 1)))] h) (fun x2 h1 => (if x2 < a1 then some (.int 0, h1) else ck (kd h1 a0 = 12) (ck (kd h1 a0 = 12) (lt_ (sI h1 a0 16 ((gI h1 a0 16) - 1)) fun h3 => ck (kd h3 a0 = 12) (ck (kd h3 a0 = 12) (ck ((kd h3 (gR h3 a0 15) = 20 ∨ kd h3 (gR h3 a0 15) = 24) ∧ ib (gI h3 a0 16) (ln h3 (gR h3 a0 15))) (ck (kd h3 a0 = 12) (cV (mE mtab d 117 [.ref a0, .int (gI h3 (gR h3 a0 15) (ix (gI h3 a0 16))), .int 0] h3) (fun h4 => ck (kd h4 a0 = 12) (ck (kd h4 a0 = 12) (ck ((kd h4 (gR h4 a0 15) = 20 ∨ kd h4 (gR h4 a0 15) = 24) ∧ ib (gI h4 a0 16) (ln h4 (gR h4 a0 15))) (cI (mE mtab d 113 [.int (gI h4 (gR h4 a0 15) (ix (gI h4 a0 16)))] h4) (fun x6 h5 => (if x6 = 7 then mX (mE mtab d) KX11_settle 42 [some (.ref a0), some (.int a1)] [] h5 else ck (kd h5 a0 = 12) (ck (kd h5 a0 = 12) (ck ((kd h5 (gR h5 a0 15) = 20 ∨ kd h5 (gR h5 a0 15) = 24) ∧ ib (gI h5 a0 16) (ln h5 (gR h5 a0 15))) ((if (gI h5 (gR h5 a0 15) (ix (gI h5 a0 16))) = 20 then mX (mE mtab d) KX11_settle 42 [some (.ref a0), some (.int a1)] [] h5 else mX (mE mtab d) KX11_settle 0 [some (.ref a0), some (.int a1)] [] h5))))))))))))))))))))))) := by
  refine mE_eq (q := (yX11_settle, cX11_settle, 2, none, KX11_settle)) (C := KX11_settle) (ls := [some (.ref a0), some (.int a1)]) rfl rfl rfl rfl ?_
  refine mX_to 1 (k' := 1) (ls' := [some (.ref a0), some (.int a1)]) (st' := [.ref a0]) (h' := h) rfl ?_
  refine mX_ck (k' := 2) (ls' := [some (.ref a0), some (.int a1)]) (st' := [.int (gI h a0 16)]) (h' := h) rfl ?_
  refine mX_br (t := 49) (f := 3) (ls' := [some (.ref a0), some (.int a1)]) (st' := []) (h' := h) rfl ?_ ?_
  · exact mX_ret rfl
  · refine mX_to 1 (k' := 4) (ls' := [some (.ref a0), some (.int a1)]) (st' := [.ref a0]) (h' := h) rfl ?_
    refine mX_ck (k' := 5) (ls' := [some (.ref a0), some (.int a1)]) (st' := [.ref (gR h a0 15)]) (h' := h) rfl ?_
    refine mX_to 1 (k' := 6) (ls' := [some (.ref a0), some (.int a1)]) (st' := [.ref a0, .ref (gR h a0 15)]) (h' := h) rfl ?_
    refine mX_ck (k' := 7) (ls' := [some (.ref a0), some (.int a1)]) (st' := [.int (gI h a0 16), .ref (gR h a0 15)]) (h' := h) rfl ?_
    refine mX_to 2 (k' := 9) (ls' := [some (.ref a0), some (.int a1)]) (st' := [.int ((gI h a0 16) - 1), .ref (gR h a0 15)]) (h' := h) rfl ?_
    refine mX_ck (k' := 10) (ls' := [some (.ref a0), some (.int a1)]) (st' := [.int (gI h (gR h a0 15) (ix ((gI h a0 16) - 1)))]) (h' := h) rfl ?_
    refine mX_cI (o := mE mtab d 113 [.int (gI h (gR h a0 15) (ix ((gI h a0 16) - 1)))] h) (k' := 11) (ls' := [some (.ref a0), some (.int a1)]) (st' := []) rfl ?_
    intro x2 h1
    refine mX_to 1 (k' := 12) (ls' := [some (.ref a0), some (.int a1)]) (st' := [.int a1, .int x2]) (h' := h1) rfl ?_
    refine mX_br (t := 49) (f := 13) (ls' := [some (.ref a0), some (.int a1)]) (st' := []) (h' := h1) rfl ?_ ?_
    · exact mX_ret rfl
    · refine mX_to 2 (k' := 15) (ls' := [some (.ref a0), some (.int a1)]) (st' := [.ref a0, .ref a0]) (h' := h1) rfl ?_
      refine mX_ck (k' := 16) (ls' := [some (.ref a0), some (.int a1)]) (st' := [.int (gI h1 a0 16), .ref a0]) (h' := h1) rfl ?_
      refine mX_to 2 (k' := 18) (ls' := [some (.ref a0), some (.int a1)]) (st' := [.int ((gI h1 a0 16) - 1), .ref a0]) (h' := h1) rfl ?_
      refine mX_ck (k' := 19) (ls' := [some (.ref a0), some (.int a1)]) (st' := []) (h' := (sI h1 a0 16 ((gI h1 a0 16) - 1))) rfl ?_
      refine lt_gen (X := fun h3 : MH => mX (mE mtab d) KX11_settle 19 [some (.ref a0), some (.int a1)] [] h3) fun h3 => ?_
      refine mX_to 2 (k' := 21) (ls' := [some (.ref a0), some (.int a1)]) (st' := [.ref a0, .ref a0]) (h' := h3) rfl ?_
      refine mX_ck (k' := 22) (ls' := [some (.ref a0), some (.int a1)]) (st' := [.ref (gR h3 a0 15), .ref a0]) (h' := h3) rfl ?_
      refine mX_to 1 (k' := 23) (ls' := [some (.ref a0), some (.int a1)]) (st' := [.ref a0, .ref (gR h3 a0 15), .ref a0]) (h' := h3) rfl ?_
      refine mX_ck (k' := 24) (ls' := [some (.ref a0), some (.int a1)]) (st' := [.int (gI h3 a0 16), .ref (gR h3 a0 15), .ref a0]) (h' := h3) rfl ?_
      refine mX_ck (k' := 25) (ls' := [some (.ref a0), some (.int a1)]) (st' := [.int (gI h3 (gR h3 a0 15) (ix (gI h3 a0 16))), .ref a0]) (h' := h3) rfl ?_
      refine mX_to 1 (k' := 26) (ls' := [some (.ref a0), some (.int a1)]) (st' := [.int 0, .int (gI h3 (gR h3 a0 15) (ix (gI h3 a0 16))), .ref a0]) (h' := h3) rfl ?_
      refine mX_ckc (m := mcl (mE mtab d 117 [.ref a0, .int (gI h3 (gR h3 a0 15) (ix (gI h3 a0 16))), .int 0] h3) 0 27 [some (.ref a0), some (.int a1)] []) rfl ?_
      refine mk_cV ?_
      intro h4
      refine mX_to 1 (k' := 28) (ls' := [some (.ref a0), some (.int a1)]) (st' := [.ref a0]) (h' := h4) rfl ?_
      refine mX_ck (k' := 29) (ls' := [some (.ref a0), some (.int a1)]) (st' := [.ref (gR h4 a0 15)]) (h' := h4) rfl ?_
      refine mX_to 1 (k' := 30) (ls' := [some (.ref a0), some (.int a1)]) (st' := [.ref a0, .ref (gR h4 a0 15)]) (h' := h4) rfl ?_
      refine mX_ck (k' := 31) (ls' := [some (.ref a0), some (.int a1)]) (st' := [.int (gI h4 a0 16), .ref (gR h4 a0 15)]) (h' := h4) rfl ?_
      refine mX_ck (k' := 32) (ls' := [some (.ref a0), some (.int a1)]) (st' := [.int (gI h4 (gR h4 a0 15) (ix (gI h4 a0 16)))]) (h' := h4) rfl ?_
      refine mX_cI (o := mE mtab d 113 [.int (gI h4 (gR h4 a0 15) (ix (gI h4 a0 16)))] h4) (k' := 33) (ls' := [some (.ref a0), some (.int a1)]) (st' := []) rfl ?_
      intro x6 h5
      refine mX_to 1 (k' := 34) (ls' := [some (.ref a0), some (.int a1)]) (st' := [.int 7, .int x6]) (h' := h5) rfl ?_
      refine mX_br (t := 42) (f := 35) (ls' := [some (.ref a0), some (.int a1)]) (st' := []) (h' := h5) rfl ?_ ?_
      · rfl
      · refine mX_to 1 (k' := 36) (ls' := [some (.ref a0), some (.int a1)]) (st' := [.ref a0]) (h' := h5) rfl ?_
        refine mX_ck (k' := 37) (ls' := [some (.ref a0), some (.int a1)]) (st' := [.ref (gR h5 a0 15)]) (h' := h5) rfl ?_
        refine mX_to 1 (k' := 38) (ls' := [some (.ref a0), some (.int a1)]) (st' := [.ref a0, .ref (gR h5 a0 15)]) (h' := h5) rfl ?_
        refine mX_ck (k' := 39) (ls' := [some (.ref a0), some (.int a1)]) (st' := [.int (gI h5 a0 16), .ref (gR h5 a0 15)]) (h' := h5) rfl ?_
        refine mX_ck (k' := 40) (ls' := [some (.ref a0), some (.int a1)]) (st' := [.int (gI h5 (gR h5 a0 15) (ix (gI h5 a0 16)))]) (h' := h5) rfl ?_
        refine mX_to 1 (k' := 41) (ls' := [some (.ref a0), some (.int a1)]) (st' := [.int 20, .int (gI h5 (gR h5 a0 15) (ix (gI h5 a0 16)))]) (h' := h5) rfl ?_
        refine mX_br (t := 42) (f := 0) (ls' := [some (.ref a0), some (.int a1)]) (st' := []) (h' := h5) rfl ?_ ?_
        · rfl
        · rfl
theorem D_X11_partOf (d : Nat) (h : MH) (a0 : Nat) (a1 : Int32) : mE mtab (d + 1) 119 [.ref a0, .int a1] h = (if a1 = 40 then ck (kd h a0 = 12) ((if (gI h a0 9) = 41 then some (.int 0, h) else some (.int (-1), h))) else (if a1 = 41 then cL (mE mtab d 103 [.int 116, .int 104, .int 101, .int 110] h) (fun x2 h1 => ck (kd h1 a0 = 12) (cI (mE mtab d 104 [.ref a0, .long x2] h1) (fun x4 h3 => (if x4 = 0 then some (.int (-1), h3) else ck (kd h3 a0 = 12) (cI (mE mtab d 114 [.ref a0] h3) (fun x6 h5 => (if x6 = 0 then some (.int (-1), h5) else some (.int 42, h5)))))))) else (if a1 = 42 then cL (mE mtab d 103 [.int 101, .int 108, .int 115, .int 101] h) (fun x8 h7 => ck (kd h7 a0 = 12) (cI (mE mtab d 104 [.ref a0, .long x8] h7) (fun x10 h9 => (if x10 = 0 then some (.int (-1), h9) else some (.int 43, h9))))) else (if a1 = 43 then cL (mE mtab d 102 [.int 101, .int 110, .int 100] h) (fun x12 h11 => ck (kd h11 a0 = 12) (cI (mE mtab d 104 [.ref a0, .long x12] h11) (fun x14 h13 => (if x14 = 0 then some (.int (-1), h13) else some (.int 0, h13))))) else some (.int (-1), h))))) := by
  refine mE_eq (q := (yX11_partOf, cX11_partOf, 2, (some .int), KX11_partOf)) (C := KX11_partOf) (ls := [some (.ref a0), some (.int a1)]) rfl rfl rfl rfl ?_
  refine mX_to 1 (k' := 1) (ls' := [some (.ref a0), some (.int a1)]) (st' := [.int a1]) (h' := h) rfl ?_
  refine mX_sw (x := a1) (t := 48) (sw := [(40, 2), (41, 10), (42, 25), (43, 37)]) (ls' := [some (.ref a0), some (.int a1)]) (st' := []) (h' := h) rfl ?_
  refine msw_cons ?_ ?_
  · refine mX_to 1 (k' := 3) (ls' := [some (.ref a0), some (.int a1)]) (st' := [.ref a0]) (h' := h) rfl ?_
    refine mX_ck (k' := 4) (ls' := [some (.ref a0), some (.int a1)]) (st' := [.int (gI h a0 9)]) (h' := h) rfl ?_
    refine mX_to 1 (k' := 5) (ls' := [some (.ref a0), some (.int a1)]) (st' := [.int 41, .int (gI h a0 9)]) (h' := h) rfl ?_
    refine mX_br (t := 6) (f := 8) (ls' := [some (.ref a0), some (.int a1)]) (st' := []) (h' := h) rfl ?_ ?_
    · refine mX_to 2 (k' := 9) (ls' := [some (.ref a0), some (.int a1)]) (st' := [.int 0]) (h' := h) rfl ?_
      exact mX_reti rfl
    · refine mX_to 1 (k' := 9) (ls' := [some (.ref a0), some (.int a1)]) (st' := [.int (-1)]) (h' := h) rfl ?_
      exact mX_reti rfl
  refine msw_cons ?_ ?_
  · refine mX_to 5 (k' := 15) (ls' := [some (.ref a0), some (.int a1)]) (st' := [.int 110, .int 101, .int 104, .int 116, .ref a0]) (h' := h) rfl ?_
    refine mX_cL (o := mE mtab d 103 [.int 116, .int 104, .int 101, .int 110] h) (k' := 16) (ls' := [some (.ref a0), some (.int a1)]) (st' := [.ref a0]) rfl ?_
    intro x2 h1
    refine mX_ckc (m := mcl (mE mtab d 104 [.ref a0, .long x2] h1) 1 17 [some (.ref a0), some (.int a1)] []) rfl ?_
    refine mk_cI ?_
    intro x4 h3
    refine mX_br (t := 23) (f := 18) (ls' := [some (.ref a0), some (.int a1)]) (st' := []) (h' := h3) rfl ?_ ?_
    · refine mX_to 1 (k' := 24) (ls' := [some (.ref a0), some (.int a1)]) (st' := [.int (-1)]) (h' := h3) rfl ?_
      exact mX_reti rfl
    · refine mX_to 1 (k' := 19) (ls' := [some (.ref a0), some (.int a1)]) (st' := [.ref a0]) (h' := h3) rfl ?_
      refine mX_ckc (m := mcl (mE mtab d 114 [.ref a0] h3) 1 20 [some (.ref a0), some (.int a1)] []) rfl ?_
      refine mk_cI ?_
      intro x6 h5
      refine mX_br (t := 23) (f := 21) (ls' := [some (.ref a0), some (.int a1)]) (st' := []) (h' := h5) rfl ?_ ?_
      · refine mX_to 1 (k' := 24) (ls' := [some (.ref a0), some (.int a1)]) (st' := [.int (-1)]) (h' := h5) rfl ?_
        exact mX_reti rfl
      · refine mX_to 2 (k' := 24) (ls' := [some (.ref a0), some (.int a1)]) (st' := [.int 42]) (h' := h5) rfl ?_
        exact mX_reti rfl
  refine msw_cons ?_ ?_
  · refine mX_to 5 (k' := 30) (ls' := [some (.ref a0), some (.int a1)]) (st' := [.int 101, .int 115, .int 108, .int 101, .ref a0]) (h' := h) rfl ?_
    refine mX_cL (o := mE mtab d 103 [.int 101, .int 108, .int 115, .int 101] h) (k' := 31) (ls' := [some (.ref a0), some (.int a1)]) (st' := [.ref a0]) rfl ?_
    intro x8 h7
    refine mX_ckc (m := mcl (mE mtab d 104 [.ref a0, .long x8] h7) 1 32 [some (.ref a0), some (.int a1)] []) rfl ?_
    refine mk_cI ?_
    intro x10 h9
    refine mX_br (t := 35) (f := 33) (ls' := [some (.ref a0), some (.int a1)]) (st' := []) (h' := h9) rfl ?_ ?_
    · refine mX_to 1 (k' := 36) (ls' := [some (.ref a0), some (.int a1)]) (st' := [.int (-1)]) (h' := h9) rfl ?_
      exact mX_reti rfl
    · refine mX_to 2 (k' := 36) (ls' := [some (.ref a0), some (.int a1)]) (st' := [.int 43]) (h' := h9) rfl ?_
      exact mX_reti rfl
  refine msw_cons ?_ ?_
  · refine mX_to 4 (k' := 41) (ls' := [some (.ref a0), some (.int a1)]) (st' := [.int 100, .int 110, .int 101, .ref a0]) (h' := h) rfl ?_
    refine mX_cL (o := mE mtab d 102 [.int 101, .int 110, .int 100] h) (k' := 42) (ls' := [some (.ref a0), some (.int a1)]) (st' := [.ref a0]) rfl ?_
    intro x12 h11
    refine mX_ckc (m := mcl (mE mtab d 104 [.ref a0, .long x12] h11) 1 43 [some (.ref a0), some (.int a1)] []) rfl ?_
    refine mk_cI ?_
    intro x14 h13
    refine mX_br (t := 46) (f := 44) (ls' := [some (.ref a0), some (.int a1)]) (st' := []) (h' := h13) rfl ?_ ?_
    · refine mX_to 1 (k' := 47) (ls' := [some (.ref a0), some (.int a1)]) (st' := [.int (-1)]) (h' := h13) rfl ?_
      exact mX_reti rfl
    · refine mX_to 2 (k' := 47) (ls' := [some (.ref a0), some (.int a1)]) (st' := [.int 0]) (h' := h13) rfl ?_
      exact mX_reti rfl
  refine msw_nil ?_
  refine mX_to 1 (k' := 49) (ls' := [some (.ref a0), some (.int a1)]) (st' := [.int (-1)]) (h' := h) rfl ?_
  exact mX_reti rfl
theorem D_X11_behindOne_82 (d : Nat) (h : MH) (l0 : Nat) (l1 : Int32) (l2 : Int32) (l3 : Int32) : mX (mE mtab d) KX11_behindOne 82 [some (.ref l0), some (.int l1), some (.int l2), some (.int l3)] [] h = ck (kd h l0 = 12) (cV (mE mtab d 118 [.ref l0, .int 7] h) (fun h20 => some (.int 1, h20))) := by
  refine mX_to 2 (k' := 84) (ls' := [some (.ref l0), some (.int l1), some (.int l2), some (.int l3)]) (st' := [.int 7, .ref l0]) (h' := h) rfl ?_
  refine mX_ckc (m := mcl (mE mtab d 118 [.ref l0, .int 7] h) 0 85 [some (.ref l0), some (.int l1), some (.int l2), some (.int l3)] []) rfl ?_
  refine mk_cV ?_
  intro h20
  refine mX_to 1 (k' := 86) (ls' := [some (.ref l0), some (.int l1), some (.int l2), some (.int l3)]) (st' := [.int 1]) (h' := h20) rfl ?_
  exact mX_retb (by decide) rfl
theorem D_X11_behindOne_14 (d : Nat) (h : MH) (l0 : Nat) (l1 : Int32) (s0 : Int32) (s1 : Nat) : mX (mE mtab d) KX11_behindOne 14 [some (.ref l0), some (.int l1), none, none] [.int s0, .ref s1] h = ck (kd h s1 = 12) (cV (mE mtab d 118 [.ref s1, .int s0] h) (fun h21 => ck (kd h21 l0 = 12) (ck (kd h21 l0 = 12) (ck (kd h21 (gR h21 l0 15) = 20 ∧ ib (gI h21 l0 16) (ln h21 (gR h21 l0 15))) (lt_ (sI h21 (gR h21 l0 15) (ix (gI h21 l0 16)) l1) fun h22 => ck (kd h22 l0 = 12) (ck (kd h22 l0 = 12) (lt_ (sI h22 l0 16 ((gI h22 l0 16) + 1)) fun h23 => ck (kd h23 l0 = 12 ∧ ((0 : Int32) = 0 ∨ (0 : Int32) = 1)) (lt_ (sI h23 l0 18 0) fun h24 => ck (kd h24 l0 = 12) (cV (mE mtab d 100 [.ref l0] h24) (fun h25 => some (.int 1, h25))))))))))) := by
  refine mX_ckc (m := mcl (mE mtab d 118 [.ref s1, .int s0] h) 0 15 [some (.ref l0), some (.int l1), none, none] []) rfl ?_
  refine mk_cV ?_
  intro h21
  refine mX_to 1 (k' := 16) (ls' := [some (.ref l0), some (.int l1), none, none]) (st' := [.ref l0]) (h' := h21) rfl ?_
  refine mX_ck (k' := 17) (ls' := [some (.ref l0), some (.int l1), none, none]) (st' := [.ref (gR h21 l0 15)]) (h' := h21) rfl ?_
  refine mX_to 1 (k' := 18) (ls' := [some (.ref l0), some (.int l1), none, none]) (st' := [.ref l0, .ref (gR h21 l0 15)]) (h' := h21) rfl ?_
  refine mX_ck (k' := 19) (ls' := [some (.ref l0), some (.int l1), none, none]) (st' := [.int (gI h21 l0 16), .ref (gR h21 l0 15)]) (h' := h21) rfl ?_
  refine mX_to 1 (k' := 20) (ls' := [some (.ref l0), some (.int l1), none, none]) (st' := [.int l1, .int (gI h21 l0 16), .ref (gR h21 l0 15)]) (h' := h21) rfl ?_
  refine mX_ck (k' := 21) (ls' := [some (.ref l0), some (.int l1), none, none]) (st' := []) (h' := (sI h21 (gR h21 l0 15) (ix (gI h21 l0 16)) l1)) rfl ?_
  refine lt_gen (X := fun h22 : MH => mX (mE mtab d) KX11_behindOne 21 [some (.ref l0), some (.int l1), none, none] [] h22) fun h22 => ?_
  refine mX_to 2 (k' := 23) (ls' := [some (.ref l0), some (.int l1), none, none]) (st' := [.ref l0, .ref l0]) (h' := h22) rfl ?_
  refine mX_ck (k' := 24) (ls' := [some (.ref l0), some (.int l1), none, none]) (st' := [.int (gI h22 l0 16), .ref l0]) (h' := h22) rfl ?_
  refine mX_to 2 (k' := 26) (ls' := [some (.ref l0), some (.int l1), none, none]) (st' := [.int ((gI h22 l0 16) + 1), .ref l0]) (h' := h22) rfl ?_
  refine mX_ck (k' := 27) (ls' := [some (.ref l0), some (.int l1), none, none]) (st' := []) (h' := (sI h22 l0 16 ((gI h22 l0 16) + 1))) rfl ?_
  refine lt_gen (X := fun h23 : MH => mX (mE mtab d) KX11_behindOne 27 [some (.ref l0), some (.int l1), none, none] [] h23) fun h23 => ?_
  refine mX_to 2 (k' := 29) (ls' := [some (.ref l0), some (.int l1), none, none]) (st' := [.int 0, .ref l0]) (h' := h23) rfl ?_
  refine mX_ck (k' := 30) (ls' := [some (.ref l0), some (.int l1), none, none]) (st' := []) (h' := (sI h23 l0 18 0)) rfl ?_
  refine lt_gen (X := fun h24 : MH => mX (mE mtab d) KX11_behindOne 30 [some (.ref l0), some (.int l1), none, none] [] h24) fun h24 => ?_
  refine mX_to 1 (k' := 31) (ls' := [some (.ref l0), some (.int l1), none, none]) (st' := [.ref l0]) (h' := h24) rfl ?_
  refine mX_ckc (m := mcl (mE mtab d 100 [.ref l0] h24) 0 32 [some (.ref l0), some (.int l1), none, none] []) rfl ?_
  refine mk_cV ?_
  intro h25
  refine mX_to 1 (k' := 33) (ls' := [some (.ref l0), some (.int l1), none, none]) (st' := [.int 1]) (h' := h25) rfl ?_
  exact mX_retb (by decide) rfl
theorem D_X11_behindOne (d : Nat) (h : MH) (a0 : Nat) : mE mtab (d + 1) 120 [.ref a0] h = ck (kd h a0 = 12) (cI (mE mtab d 116 [.ref a0] h) (fun x2 h1 => (if x2 < 0 then ck (kd h1 a0 = 12) (cI (mE mtab d 112 [.ref a0] h1) (fun x4 h3 => ck (kd h3 a0 = 12) (cI (mE mtab d 119 [.ref a0, .int x4] h3) (fun x6 h5 => (if x6 < 0 then some (.int 0, h5) else ck (kd h5 a0 = 12) (cV (mE mtab d 118 [.ref a0, .int 1] h5) (fun h7 => ck (kd h7 a0 = 12) (cV (mE mtab d 100 [.ref a0] h7) (fun h8 => (if x6 ≤ 0 then ck (kd h8 a0 = 12) (ck (kd h8 a0 = 12) (lt_ (sI h8 a0 17 ((gI h8 a0 17) - 1)) fun h9 => ck (kd h9 a0 = 12) (ck (kd h9 a0 = 12) (lt_ (sI h9 a0 16 ((gI h9 a0 16) - 1)) fun h10 => (if x4 = 43 then ck (kd h10 a0 = 12) (cV (mE mtab d 117 [.ref a0, .int 3, .int 0] h10) (fun h11 => mX (mE mtab d) KX11_behindOne 82 [some (.ref a0), some (.int x2), some (.int x4), some (.int x6)] [] h11)) else mX (mE mtab d) KX11_behindOne 82 [some (.ref a0), some (.int x2), some (.int x4), some (.int x6)] [] h10))))) else ck (kd h8 a0 = 12) (ck (kd h8 a0 = 12) (cI (mE mtab d 111 [.ref a0] h8) (fun x13 h12 => ck (kd h12 (gR h8 a0 15) = 20 ∧ ib x13 (ln h12 (gR h8 a0 15))) (lt_ (sI h12 (gR h8 a0 15) (ix x13) x6) fun h14 => ck (kd h14 a0 = 12 ∧ ((0 : Int32) = 0 ∨ (0 : Int32) = 1)) (lt_ (sI h14 a0 18 0) fun h15 => some (.int 1, h15)))))))))))))))) else cI (mE mtab d 113 [.int x2] h1) (fun x17 h16 => (if x17 = 4 then mX (mE mtab d) KX11_behindOne 14 [some (.ref a0), some (.int x2), none, none] [.int 5, .ref a0] h16 else cI (mE mtab d 113 [.int x2] h16) (fun x19 h18 => mX (mE mtab d) KX11_behindOne 14 [some (.ref a0), some (.int x2), none, none] [.int x19, .ref a0] h18)))))) := by
  refine mE_eq (q := (yX11_behindOne, cX11_behindOne, 4, (some .boolean), KX11_behindOne)) (C := KX11_behindOne) (ls := [some (.ref a0), none, none, none]) rfl rfl rfl rfl ?_
  refine mX_to 1 (k' := 1) (ls' := [some (.ref a0), none, none, none]) (st' := [.ref a0]) (h' := h) rfl ?_
  refine mX_ckc (m := mcl (mE mtab d 116 [.ref a0] h) 1 2 [some (.ref a0), none, none, none] []) rfl ?_
  refine mk_cI ?_
  intro x2 h1
  refine mX_to 2 (k' := 4) (ls' := [some (.ref a0), some (.int x2), none, none]) (st' := [.int x2]) (h' := h1) rfl ?_
  refine mX_br (t := 34) (f := 5) (ls' := [some (.ref a0), some (.int x2), none, none]) (st' := []) (h' := h1) rfl ?_ ?_
  · refine mX_to 1 (k' := 35) (ls' := [some (.ref a0), some (.int x2), none, none]) (st' := [.ref a0]) (h' := h1) rfl ?_
    refine mX_ckc (m := mcl (mE mtab d 112 [.ref a0] h1) 1 36 [some (.ref a0), some (.int x2), none, none] []) rfl ?_
    refine mk_cI ?_
    intro x4 h3
    refine mX_to 3 (k' := 39) (ls' := [some (.ref a0), some (.int x2), some (.int x4), none]) (st' := [.int x4, .ref a0]) (h' := h3) rfl ?_
    refine mX_ckc (m := mcl (mE mtab d 119 [.ref a0, .int x4] h3) 1 40 [some (.ref a0), some (.int x2), some (.int x4), none] []) rfl ?_
    refine mk_cI ?_
    intro x6 h5
    refine mX_to 2 (k' := 42) (ls' := [some (.ref a0), some (.int x2), some (.int x4), some (.int x6)]) (st' := [.int x6]) (h' := h5) rfl ?_
    refine mX_br (t := 43) (f := 45) (ls' := [some (.ref a0), some (.int x2), some (.int x4), some (.int x6)]) (st' := []) (h' := h5) rfl ?_ ?_
    · refine mX_to 1 (k' := 44) (ls' := [some (.ref a0), some (.int x2), some (.int x4), some (.int x6)]) (st' := [.int 0]) (h' := h5) rfl ?_
      exact mX_retb (by decide) rfl
    · refine mX_to 2 (k' := 47) (ls' := [some (.ref a0), some (.int x2), some (.int x4), some (.int x6)]) (st' := [.int 1, .ref a0]) (h' := h5) rfl ?_
      refine mX_ckc (m := mcl (mE mtab d 118 [.ref a0, .int 1] h5) 0 48 [some (.ref a0), some (.int x2), some (.int x4), some (.int x6)] []) rfl ?_
      refine mk_cV ?_
      intro h7
      refine mX_to 1 (k' := 49) (ls' := [some (.ref a0), some (.int x2), some (.int x4), some (.int x6)]) (st' := [.ref a0]) (h' := h7) rfl ?_
      refine mX_ckc (m := mcl (mE mtab d 100 [.ref a0] h7) 0 50 [some (.ref a0), some (.int x2), some (.int x4), some (.int x6)] []) rfl ?_
      refine mk_cV ?_
      intro h8
      refine mX_to 1 (k' := 51) (ls' := [some (.ref a0), some (.int x2), some (.int x4), some (.int x6)]) (st' := [.int x6]) (h' := h8) rfl ?_
      refine mX_br (t := 63) (f := 52) (ls' := [some (.ref a0), some (.int x2), some (.int x4), some (.int x6)]) (st' := []) (h' := h8) rfl ?_ ?_
      · refine mX_to 2 (k' := 65) (ls' := [some (.ref a0), some (.int x2), some (.int x4), some (.int x6)]) (st' := [.ref a0, .ref a0]) (h' := h8) rfl ?_
        refine mX_ck (k' := 66) (ls' := [some (.ref a0), some (.int x2), some (.int x4), some (.int x6)]) (st' := [.int (gI h8 a0 17), .ref a0]) (h' := h8) rfl ?_
        refine mX_to 2 (k' := 68) (ls' := [some (.ref a0), some (.int x2), some (.int x4), some (.int x6)]) (st' := [.int ((gI h8 a0 17) - 1), .ref a0]) (h' := h8) rfl ?_
        refine mX_ck (k' := 69) (ls' := [some (.ref a0), some (.int x2), some (.int x4), some (.int x6)]) (st' := []) (h' := (sI h8 a0 17 ((gI h8 a0 17) - 1))) rfl ?_
        refine lt_gen (X := fun h9 : MH => mX (mE mtab d) KX11_behindOne 69 [some (.ref a0), some (.int x2), some (.int x4), some (.int x6)] [] h9) fun h9 => ?_
        refine mX_to 2 (k' := 71) (ls' := [some (.ref a0), some (.int x2), some (.int x4), some (.int x6)]) (st' := [.ref a0, .ref a0]) (h' := h9) rfl ?_
        refine mX_ck (k' := 72) (ls' := [some (.ref a0), some (.int x2), some (.int x4), some (.int x6)]) (st' := [.int (gI h9 a0 16), .ref a0]) (h' := h9) rfl ?_
        refine mX_to 2 (k' := 74) (ls' := [some (.ref a0), some (.int x2), some (.int x4), some (.int x6)]) (st' := [.int ((gI h9 a0 16) - 1), .ref a0]) (h' := h9) rfl ?_
        refine mX_ck (k' := 75) (ls' := [some (.ref a0), some (.int x2), some (.int x4), some (.int x6)]) (st' := []) (h' := (sI h9 a0 16 ((gI h9 a0 16) - 1))) rfl ?_
        refine lt_gen (X := fun h10 : MH => mX (mE mtab d) KX11_behindOne 75 [some (.ref a0), some (.int x2), some (.int x4), some (.int x6)] [] h10) fun h10 => ?_
        refine mX_to 2 (k' := 77) (ls' := [some (.ref a0), some (.int x2), some (.int x4), some (.int x6)]) (st' := [.int 43, .int x4]) (h' := h10) rfl ?_
        refine mX_br (t := 78) (f := 82) (ls' := [some (.ref a0), some (.int x2), some (.int x4), some (.int x6)]) (st' := []) (h' := h10) rfl ?_ ?_
        · refine mX_to 3 (k' := 81) (ls' := [some (.ref a0), some (.int x2), some (.int x4), some (.int x6)]) (st' := [.int 0, .int 3, .ref a0]) (h' := h10) rfl ?_
          refine mX_ckc (m := mcl (mE mtab d 117 [.ref a0, .int 3, .int 0] h10) 0 82 [some (.ref a0), some (.int x2), some (.int x4), some (.int x6)] []) rfl ?_
          refine mk_cV ?_
          intro h11
          rfl
        · rfl
      · refine mX_to 1 (k' := 53) (ls' := [some (.ref a0), some (.int x2), some (.int x4), some (.int x6)]) (st' := [.ref a0]) (h' := h8) rfl ?_
        refine mX_ck (k' := 54) (ls' := [some (.ref a0), some (.int x2), some (.int x4), some (.int x6)]) (st' := [.ref (gR h8 a0 15)]) (h' := h8) rfl ?_
        refine mX_to 1 (k' := 55) (ls' := [some (.ref a0), some (.int x2), some (.int x4), some (.int x6)]) (st' := [.ref a0, .ref (gR h8 a0 15)]) (h' := h8) rfl ?_
        refine mX_ckc (m := mcl (mE mtab d 111 [.ref a0] h8) 1 56 [some (.ref a0), some (.int x2), some (.int x4), some (.int x6)] [.ref (gR h8 a0 15)]) rfl ?_
        refine mk_cI ?_
        intro x13 h12
        refine mX_to 1 (k' := 57) (ls' := [some (.ref a0), some (.int x2), some (.int x4), some (.int x6)]) (st' := [.int x6, .int x13, .ref (gR h8 a0 15)]) (h' := h12) rfl ?_
        refine mX_ck (k' := 58) (ls' := [some (.ref a0), some (.int x2), some (.int x4), some (.int x6)]) (st' := []) (h' := (sI h12 (gR h8 a0 15) (ix x13) x6)) rfl ?_
        refine lt_gen (X := fun h14 : MH => mX (mE mtab d) KX11_behindOne 58 [some (.ref a0), some (.int x2), some (.int x4), some (.int x6)] [] h14) fun h14 => ?_
        refine mX_to 2 (k' := 60) (ls' := [some (.ref a0), some (.int x2), some (.int x4), some (.int x6)]) (st' := [.int 0, .ref a0]) (h' := h14) rfl ?_
        refine mX_ck (k' := 61) (ls' := [some (.ref a0), some (.int x2), some (.int x4), some (.int x6)]) (st' := []) (h' := (sI h14 a0 18 0)) rfl ?_
        refine lt_gen (X := fun h15 : MH => mX (mE mtab d) KX11_behindOne 61 [some (.ref a0), some (.int x2), some (.int x4), some (.int x6)] [] h15) fun h15 => ?_
        refine mX_to 1 (k' := 62) (ls' := [some (.ref a0), some (.int x2), some (.int x4), some (.int x6)]) (st' := [.int 1]) (h' := h15) rfl ?_
        exact mX_retb (by decide) rfl
  · refine mX_to 2 (k' := 7) (ls' := [some (.ref a0), some (.int x2), none, none]) (st' := [.int x2, .ref a0]) (h' := h1) rfl ?_
    refine mX_cI (o := mE mtab d 113 [.int x2] h1) (k' := 8) (ls' := [some (.ref a0), some (.int x2), none, none]) (st' := [.ref a0]) rfl ?_
    intro x17 h16
    refine mX_to 1 (k' := 9) (ls' := [some (.ref a0), some (.int x2), none, none]) (st' := [.int 4, .int x17, .ref a0]) (h' := h16) rfl ?_
    refine mX_br (t := 10) (f := 12) (ls' := [some (.ref a0), some (.int x2), none, none]) (st' := [.ref a0]) (h' := h16) rfl ?_ ?_
    · refine mX_to 2 (k' := 14) (ls' := [some (.ref a0), some (.int x2), none, none]) (st' := [.int 5, .ref a0]) (h' := h16) rfl ?_
      rfl
    · refine mX_to 1 (k' := 13) (ls' := [some (.ref a0), some (.int x2), none, none]) (st' := [.int x2, .ref a0]) (h' := h16) rfl ?_
      refine mX_cI (o := mE mtab d 113 [.int x2] h16) (k' := 14) (ls' := [some (.ref a0), some (.int x2), none, none]) (st' := [.ref a0]) rfl ?_
      intro x19 h18
      rfl
theorem D_X11_nameOf (d : Nat) (h : MH) (a0 : Nat) : mE mtab (d + 1) 121 [.ref a0] h = ck (kd h a0 = 12) ((if (gI h a0 9) = 2 then ck (kd h a0 = 12) (cL (mE mtab d 103 [.int 104, .int 111, .int 117, .int 114] h) (fun x2 h1 => (if (lg_cmp (gL h a0 11) x2) = 0 then some (.int 0, h1) else ck (kd h1 a0 = 12) (cL (mE mtab d 102 [.int 116, .int 105, .int 112] h1) (fun x4 h3 => (if (lg_cmp (gL h1 a0 11) x4) = 0 then some (.int 1, h3) else ck (kd h3 a0 = 12) (cL (mE mtab d 102 [.int 97, .int 108, .int 108] h3) (fun x6 h5 => (if (lg_cmp (gL h3 a0 11) x6) = 0 then some (.int 2, h5) else ck (kd h5 a0 = 12) (cL (mE mtab d 103 [.int 115, .int 110, .int 111, .int 119] h5) (fun x8 h7 => (if (lg_cmp (gL h5 a0 11) x8) = 0 then some (.int 3, h7) else ck (kd h7 a0 = 12) (cL (mE mtab d 102 [.int 119, .int 104, .int 111] h7) (fun x10 h9 => (if (lg_cmp (gL h7 a0 11) x10) = 0 then some (.int 4, h9) else ck (kd h9 a0 = 12) (cL (mE mtab d 106 [.int 119, .int 101, .int 105, .int 103, .int 104, .int 116] h9) (fun x12 h11 => (if (lg_cmp (gL h9 a0 11) x12) = 0 then some (.int 5, h11) else ck (kd h11 a0 = 12) (cL (mE mtab d 105 [.int 112, .int 108, .int 97, .int 99, .int 101] h11) (fun x14 h13 => (if (lg_cmp (gL h11 a0 11) x14) = 0 then some (.int 6, h13) else some (.int (-1), h13)))))))))))))))))))))) else some (.int (-1), h))) := by
  refine mE_eq (q := (yX11_nameOf, cX11_nameOf, 1, (some .int), KX11_nameOf)) (C := KX11_nameOf) (ls := [some (.ref a0)]) rfl rfl rfl rfl ?_
  refine mX_to 1 (k' := 1) (ls' := [some (.ref a0)]) (st' := [.ref a0]) (h' := h) rfl ?_
  refine mX_ck (k' := 2) (ls' := [some (.ref a0)]) (st' := [.int (gI h a0 9)]) (h' := h) rfl ?_
  refine mX_to 1 (k' := 3) (ls' := [some (.ref a0)]) (st' := [.int 2, .int (gI h a0 9)]) (h' := h) rfl ?_
  refine mX_br (t := 6) (f := 4) (ls' := [some (.ref a0)]) (st' := []) (h' := h) rfl ?_ ?_
  · refine mX_to 1 (k' := 7) (ls' := [some (.ref a0)]) (st' := [.ref a0]) (h' := h) rfl ?_
    refine mX_ck (k' := 8) (ls' := [some (.ref a0)]) (st' := [.long (gL h a0 11)]) (h' := h) rfl ?_
    refine mX_to 4 (k' := 12) (ls' := [some (.ref a0)]) (st' := [.int 114, .int 117, .int 111, .int 104, .long (gL h a0 11)]) (h' := h) rfl ?_
    refine mX_cL (o := mE mtab d 103 [.int 104, .int 111, .int 117, .int 114] h) (k' := 13) (ls' := [some (.ref a0)]) (st' := [.long (gL h a0 11)]) rfl ?_
    intro x2 h1
    refine mX_to 1 (k' := 14) (ls' := [some (.ref a0)]) (st' := [.int (lg_cmp (gL h a0 11) x2)]) (h' := h1) rfl ?_
    refine mX_br (t := 15) (f := 17) (ls' := [some (.ref a0)]) (st' := []) (h' := h1) rfl ?_ ?_
    · refine mX_to 1 (k' := 16) (ls' := [some (.ref a0)]) (st' := [.int 0]) (h' := h1) rfl ?_
      exact mX_reti rfl
    · refine mX_to 1 (k' := 18) (ls' := [some (.ref a0)]) (st' := [.ref a0]) (h' := h1) rfl ?_
      refine mX_ck (k' := 19) (ls' := [some (.ref a0)]) (st' := [.long (gL h1 a0 11)]) (h' := h1) rfl ?_
      refine mX_to 3 (k' := 22) (ls' := [some (.ref a0)]) (st' := [.int 112, .int 105, .int 116, .long (gL h1 a0 11)]) (h' := h1) rfl ?_
      refine mX_cL (o := mE mtab d 102 [.int 116, .int 105, .int 112] h1) (k' := 23) (ls' := [some (.ref a0)]) (st' := [.long (gL h1 a0 11)]) rfl ?_
      intro x4 h3
      refine mX_to 1 (k' := 24) (ls' := [some (.ref a0)]) (st' := [.int (lg_cmp (gL h1 a0 11) x4)]) (h' := h3) rfl ?_
      refine mX_br (t := 25) (f := 27) (ls' := [some (.ref a0)]) (st' := []) (h' := h3) rfl ?_ ?_
      · refine mX_to 1 (k' := 26) (ls' := [some (.ref a0)]) (st' := [.int 1]) (h' := h3) rfl ?_
        exact mX_reti rfl
      · refine mX_to 1 (k' := 28) (ls' := [some (.ref a0)]) (st' := [.ref a0]) (h' := h3) rfl ?_
        refine mX_ck (k' := 29) (ls' := [some (.ref a0)]) (st' := [.long (gL h3 a0 11)]) (h' := h3) rfl ?_
        refine mX_to 3 (k' := 32) (ls' := [some (.ref a0)]) (st' := [.int 108, .int 108, .int 97, .long (gL h3 a0 11)]) (h' := h3) rfl ?_
        refine mX_cL (o := mE mtab d 102 [.int 97, .int 108, .int 108] h3) (k' := 33) (ls' := [some (.ref a0)]) (st' := [.long (gL h3 a0 11)]) rfl ?_
        intro x6 h5
        refine mX_to 1 (k' := 34) (ls' := [some (.ref a0)]) (st' := [.int (lg_cmp (gL h3 a0 11) x6)]) (h' := h5) rfl ?_
        refine mX_br (t := 35) (f := 37) (ls' := [some (.ref a0)]) (st' := []) (h' := h5) rfl ?_ ?_
        · refine mX_to 1 (k' := 36) (ls' := [some (.ref a0)]) (st' := [.int 2]) (h' := h5) rfl ?_
          exact mX_reti rfl
        · refine mX_to 1 (k' := 38) (ls' := [some (.ref a0)]) (st' := [.ref a0]) (h' := h5) rfl ?_
          refine mX_ck (k' := 39) (ls' := [some (.ref a0)]) (st' := [.long (gL h5 a0 11)]) (h' := h5) rfl ?_
          refine mX_to 4 (k' := 43) (ls' := [some (.ref a0)]) (st' := [.int 119, .int 111, .int 110, .int 115, .long (gL h5 a0 11)]) (h' := h5) rfl ?_
          refine mX_cL (o := mE mtab d 103 [.int 115, .int 110, .int 111, .int 119] h5) (k' := 44) (ls' := [some (.ref a0)]) (st' := [.long (gL h5 a0 11)]) rfl ?_
          intro x8 h7
          refine mX_to 1 (k' := 45) (ls' := [some (.ref a0)]) (st' := [.int (lg_cmp (gL h5 a0 11) x8)]) (h' := h7) rfl ?_
          refine mX_br (t := 46) (f := 48) (ls' := [some (.ref a0)]) (st' := []) (h' := h7) rfl ?_ ?_
          · refine mX_to 1 (k' := 47) (ls' := [some (.ref a0)]) (st' := [.int 3]) (h' := h7) rfl ?_
            exact mX_reti rfl
          · refine mX_to 1 (k' := 49) (ls' := [some (.ref a0)]) (st' := [.ref a0]) (h' := h7) rfl ?_
            refine mX_ck (k' := 50) (ls' := [some (.ref a0)]) (st' := [.long (gL h7 a0 11)]) (h' := h7) rfl ?_
            refine mX_to 3 (k' := 53) (ls' := [some (.ref a0)]) (st' := [.int 111, .int 104, .int 119, .long (gL h7 a0 11)]) (h' := h7) rfl ?_
            refine mX_cL (o := mE mtab d 102 [.int 119, .int 104, .int 111] h7) (k' := 54) (ls' := [some (.ref a0)]) (st' := [.long (gL h7 a0 11)]) rfl ?_
            intro x10 h9
            refine mX_to 1 (k' := 55) (ls' := [some (.ref a0)]) (st' := [.int (lg_cmp (gL h7 a0 11) x10)]) (h' := h9) rfl ?_
            refine mX_br (t := 56) (f := 58) (ls' := [some (.ref a0)]) (st' := []) (h' := h9) rfl ?_ ?_
            · refine mX_to 1 (k' := 57) (ls' := [some (.ref a0)]) (st' := [.int 4]) (h' := h9) rfl ?_
              exact mX_reti rfl
            · refine mX_to 1 (k' := 59) (ls' := [some (.ref a0)]) (st' := [.ref a0]) (h' := h9) rfl ?_
              refine mX_ck (k' := 60) (ls' := [some (.ref a0)]) (st' := [.long (gL h9 a0 11)]) (h' := h9) rfl ?_
              refine mX_to 6 (k' := 66) (ls' := [some (.ref a0)]) (st' := [.int 116, .int 104, .int 103, .int 105, .int 101, .int 119, .long (gL h9 a0 11)]) (h' := h9) rfl ?_
              refine mX_cL (o := mE mtab d 106 [.int 119, .int 101, .int 105, .int 103, .int 104, .int 116] h9) (k' := 67) (ls' := [some (.ref a0)]) (st' := [.long (gL h9 a0 11)]) rfl ?_
              intro x12 h11
              refine mX_to 1 (k' := 68) (ls' := [some (.ref a0)]) (st' := [.int (lg_cmp (gL h9 a0 11) x12)]) (h' := h11) rfl ?_
              refine mX_br (t := 69) (f := 71) (ls' := [some (.ref a0)]) (st' := []) (h' := h11) rfl ?_ ?_
              · refine mX_to 2 (k' := 84) (ls' := [some (.ref a0)]) (st' := [.int 5]) (h' := h11) rfl ?_
                exact mX_reti rfl
              · refine mX_to 1 (k' := 72) (ls' := [some (.ref a0)]) (st' := [.ref a0]) (h' := h11) rfl ?_
                refine mX_ck (k' := 73) (ls' := [some (.ref a0)]) (st' := [.long (gL h11 a0 11)]) (h' := h11) rfl ?_
                refine mX_to 5 (k' := 78) (ls' := [some (.ref a0)]) (st' := [.int 101, .int 99, .int 97, .int 108, .int 112, .long (gL h11 a0 11)]) (h' := h11) rfl ?_
                refine mX_cL (o := mE mtab d 105 [.int 112, .int 108, .int 97, .int 99, .int 101] h11) (k' := 79) (ls' := [some (.ref a0)]) (st' := [.long (gL h11 a0 11)]) rfl ?_
                intro x14 h13
                refine mX_to 1 (k' := 80) (ls' := [some (.ref a0)]) (st' := [.int (lg_cmp (gL h11 a0 11) x14)]) (h' := h13) rfl ?_
                refine mX_br (t := 81) (f := 83) (ls' := [some (.ref a0)]) (st' := []) (h' := h13) rfl ?_ ?_
                · refine mX_to 2 (k' := 84) (ls' := [some (.ref a0)]) (st' := [.int 6]) (h' := h13) rfl ?_
                  exact mX_reti rfl
                · refine mX_to 1 (k' := 84) (ls' := [some (.ref a0)]) (st' := [.int (-1)]) (h' := h13) rfl ?_
                  exact mX_reti rfl
  · refine mX_to 1 (k' := 5) (ls' := [some (.ref a0)]) (st' := [.int (-1)]) (h' := h) rfl ?_
    exact mX_reti rfl
