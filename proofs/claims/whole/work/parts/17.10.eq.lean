/-! EQUATIONS OF THE METHODS (written by wip/gen/dgen.py) -/
theorem D_X11_peopleIn_4 (d : Nat) (h : MH) (l0 : Nat) (l1 : Int32) (l2 : Int32) (l3 : Int32) : mX (mE mtab d) KX11_peopleIn 4 [some (.ref l0), some (.int l1), some (.int l2), some (.int l3)] [] h = ck (kd h l0 = 12) (ck ((kd h (gR h l0 0) = 20 ∨ kd h (gR h l0 0) = 24) ∧ ib (0 : Int32) (ln h (gR h l0 0))) ((if l3 < (gI h (gR h l0 0) (ix (0 : Int32))) then ck (kd h l0 = 12) (ck ((kd h (gR h l0 0) = 20 ∨ kd h (gR h l0 0) = 24) ∧ ib (9 + l3) (ln h (gR h l0 0))) ((if (gI h (gR h l0 0) (ix (9 + l3))) = l1 then mX (mE mtab d) KX11_peopleIn 24 [some (.ref l0), some (.int l1), some (.int l2), some (.int l3)] [.int (1 <<< (l3 &&& 31)), .int l2] h else mX (mE mtab d) KX11_peopleIn 24 [some (.ref l0), some (.int l1), some (.int l2), some (.int l3)] [.int 0, .int l2] h))) else some (.int l2, h)))) := by
  refine mX_to 2 (k' := 6) (ls' := [some (.ref l0), some (.int l1), some (.int l2), some (.int l3)]) (st' := [.ref l0, .int l3]) (h' := h) rfl ?_
  refine mX_ck (k' := 7) (ls' := [some (.ref l0), some (.int l1), some (.int l2), some (.int l3)]) (st' := [.ref (gR h l0 0), .int l3]) (h' := h) rfl ?_
  refine mX_to 1 (k' := 8) (ls' := [some (.ref l0), some (.int l1), some (.int l2), some (.int l3)]) (st' := [.int 0, .ref (gR h l0 0), .int l3]) (h' := h) rfl ?_
  refine mX_ck (k' := 9) (ls' := [some (.ref l0), some (.int l1), some (.int l2), some (.int l3)]) (st' := [.int (gI h (gR h l0 0) (ix (0 : Int32))), .int l3]) (h' := h) rfl ?_
  refine mX_br (t := 10) (f := 28) (ls' := [some (.ref l0), some (.int l1), some (.int l2), some (.int l3)]) (st' := []) (h' := h) rfl ?_ ?_
  · refine mX_to 2 (k' := 12) (ls' := [some (.ref l0), some (.int l1), some (.int l2), some (.int l3)]) (st' := [.ref l0, .int l2]) (h' := h) rfl ?_
    refine mX_ck (k' := 13) (ls' := [some (.ref l0), some (.int l1), some (.int l2), some (.int l3)]) (st' := [.ref (gR h l0 0), .int l2]) (h' := h) rfl ?_
    refine mX_to 3 (k' := 16) (ls' := [some (.ref l0), some (.int l1), some (.int l2), some (.int l3)]) (st' := [.int (9 + l3), .ref (gR h l0 0), .int l2]) (h' := h) rfl ?_
    refine mX_ck (k' := 17) (ls' := [some (.ref l0), some (.int l1), some (.int l2), some (.int l3)]) (st' := [.int (gI h (gR h l0 0) (ix (9 + l3))), .int l2]) (h' := h) rfl ?_
    refine mX_to 1 (k' := 18) (ls' := [some (.ref l0), some (.int l1), some (.int l2), some (.int l3)]) (st' := [.int l1, .int (gI h (gR h l0 0) (ix (9 + l3))), .int l2]) (h' := h) rfl ?_
    refine mX_br (t := 19) (f := 23) (ls' := [some (.ref l0), some (.int l1), some (.int l2), some (.int l3)]) (st' := [.int l2]) (h' := h) rfl ?_ ?_
    · refine mX_to 4 (k' := 24) (ls' := [some (.ref l0), some (.int l1), some (.int l2), some (.int l3)]) (st' := [.int (1 <<< (l3 &&& 31)), .int l2]) (h' := h) rfl ?_
      rfl
    · refine mX_to 1 (k' := 24) (ls' := [some (.ref l0), some (.int l1), some (.int l2), some (.int l3)]) (st' := [.int 0, .int l2]) (h' := h) rfl ?_
      rfl
  · refine mX_to 1 (k' := 29) (ls' := [some (.ref l0), some (.int l1), some (.int l2), some (.int l3)]) (st' := [.int l2]) (h' := h) rfl ?_
    exact mX_reti rfl
theorem D_X11_peopleIn_24 (d : Nat) (h : MH) (l0 : Nat) (l1 : Int32) (l2 : Int32) (l3 : Int32) (s0 : Int32) (s1 : Int32) : mX (mE mtab d) KX11_peopleIn 24 [some (.ref l0), some (.int l1), some (.int l2), some (.int l3)] [.int s0, .int s1] h = lt_ (s1 ||| s0) fun v1 => mX (mE mtab d) KX11_peopleIn 4 [some (.ref l0), some (.int l1), some (.int v1), some (.int (l3 + 1))] [] h := by
  refine mX_to 1 (k' := 25) (ls' := [some (.ref l0), some (.int l1), some (.int l2), some (.int l3)]) (st' := [.int (s1 ||| s0)]) (h' := h) rfl ?_
  refine lt_gen (X := fun v1 : Int32 => mX (mE mtab d) KX11_peopleIn 25 [some (.ref l0), some (.int l1), some (.int l2), some (.int l3)] [.int v1] h) fun v1 => ?_
  refine mX_to 3 (k' := 4) (ls' := [some (.ref l0), some (.int l1), some (.int v1), some (.int (l3 + 1))]) (st' := []) (h' := h) rfl ?_
  rfl
theorem D_X11_peopleIn (d : Nat) (h : MH) (a0 : Nat) (a1 : Int32) : mE mtab (d + 1) 161 [.ref a0, .int a1] h = mX (mE mtab d) KX11_peopleIn 4 [some (.ref a0), some (.int a1), some (.int 0), some (.int 0)] [] h := by
  refine mE_eq (q := (yX11_peopleIn, cX11_peopleIn, 4, (some .int), KX11_peopleIn)) (C := KX11_peopleIn) (ls := [some (.ref a0), some (.int a1), none, none]) rfl rfl rfl rfl ?_
  refine mX_to 4 (k' := 4) (ls' := [some (.ref a0), some (.int a1), some (.int 0), some (.int 0)]) (st' := []) (h' := h) rfl ?_
  rfl
theorem D_X11_loadOf (d : Nat) (h : MH) (a0 : Nat) (a1 : Int32) : mE mtab (d + 1) 162 [.ref a0, .int a1] h = ck (kd h a0 = 12) (ck ((kd h (gR h a0 0) = 20 ∨ kd h (gR h a0 0) = 24) ∧ ib (13 + a1) (ln h (gR h a0 0))) (ck (kd h a0 = 12) (cI (mE mtab d 161 [.ref a0, .int a1] h) (fun x2 h1 => ck (kd h1 a0 = 12) (cI (mE mtab d 158 [.ref a0, .int x2] h1) (fun x4 h3 => some (.int ((gI h (gR h a0 0) (ix (13 + a1))) + x4), h3))))))) := by
  refine mE_eq (q := (yX11_loadOf, cX11_loadOf, 2, (some .int), KX11_loadOf)) (C := KX11_loadOf) (ls := [some (.ref a0), some (.int a1)]) rfl rfl rfl rfl ?_
  refine mX_to 1 (k' := 1) (ls' := [some (.ref a0), some (.int a1)]) (st' := [.ref a0]) (h' := h) rfl ?_
  refine mX_ck (k' := 2) (ls' := [some (.ref a0), some (.int a1)]) (st' := [.ref (gR h a0 0)]) (h' := h) rfl ?_
  refine mX_to 3 (k' := 5) (ls' := [some (.ref a0), some (.int a1)]) (st' := [.int (13 + a1), .ref (gR h a0 0)]) (h' := h) rfl ?_
  refine mX_ck (k' := 6) (ls' := [some (.ref a0), some (.int a1)]) (st' := [.int (gI h (gR h a0 0) (ix (13 + a1)))]) (h' := h) rfl ?_
  refine mX_to 3 (k' := 9) (ls' := [some (.ref a0), some (.int a1)]) (st' := [.int a1, .ref a0, .ref a0, .int (gI h (gR h a0 0) (ix (13 + a1)))]) (h' := h) rfl ?_
  refine mX_ckc (m := mcl (mE mtab d 161 [.ref a0, .int a1] h) 1 10 [some (.ref a0), some (.int a1)] [.ref a0, .int (gI h (gR h a0 0) (ix (13 + a1)))]) rfl ?_
  refine mk_cI ?_
  intro x2 h1
  refine mX_ckc (m := mcl (mE mtab d 158 [.ref a0, .int x2] h1) 1 11 [some (.ref a0), some (.int a1)] [.int (gI h (gR h a0 0) (ix (13 + a1)))]) rfl ?_
  refine mk_cI ?_
  intro x4 h3
  refine mX_to 1 (k' := 12) (ls' := [some (.ref a0), some (.int a1)]) (st' := [.int ((gI h (gR h a0 0) (ix (13 + a1))) + x4)]) (h' := h3) rfl ?_
  exact mX_reti rfl
theorem D_X11_placeLoad (d : Nat) (h : MH) (a0 : Nat) (a1 : Int64) : mE mtab (d + 1) 163 [.ref a0, .long a1] h = (if (lg_cmp a1 0) < 0 then some (.long 0, h) else (if (lg_cmp a1 9) < 0 then ck (kd h a0 = 12) (cI (mE mtab d 162 [.ref a0, .int ((a1 : Int64).toInt32)] h) (fun x2 h1 => some (.long ((x2 : Int32).toInt64), h1))) else some (.long 0, h))) := by
  refine mE_eq (q := (yX11_placeLoad, cX11_placeLoad, 3, (some .long), KX11_placeLoad)) (C := KX11_placeLoad) (ls := [some (.ref a0), some (.long a1), none]) rfl rfl rfl rfl ?_
  refine mX_to 3 (k' := 3) (ls' := [some (.ref a0), some (.long a1), none]) (st' := [.int (lg_cmp a1 0)]) (h' := h) rfl ?_
  refine mX_br (t := 14) (f := 4) (ls' := [some (.ref a0), some (.long a1), none]) (st' := []) (h' := h) rfl ?_ ?_
  · refine mX_to 1 (k' := 15) (ls' := [some (.ref a0), some (.long a1), none]) (st' := [.long 0]) (h' := h) rfl ?_
    exact mX_ret rfl
  · refine mX_to 3 (k' := 7) (ls' := [some (.ref a0), some (.long a1), none]) (st' := [.int (lg_cmp a1 9)]) (h' := h) rfl ?_
    refine mX_br (t := 8) (f := 14) (ls' := [some (.ref a0), some (.long a1), none]) (st' := []) (h' := h) rfl ?_ ?_
    · refine mX_to 3 (k' := 11) (ls' := [some (.ref a0), some (.long a1), none]) (st' := [.int ((a1 : Int64).toInt32), .ref a0]) (h' := h) rfl ?_
      refine mX_ckc (m := mcl (mE mtab d 162 [.ref a0, .int ((a1 : Int64).toInt32)] h) 1 12 [some (.ref a0), some (.long a1), none] []) rfl ?_
      refine mk_cI ?_
      intro x2 h1
      refine mX_to 2 (k' := 15) (ls' := [some (.ref a0), some (.long a1), none]) (st' := [.long ((x2 : Int32).toInt64)]) (h' := h1) rfl ?_
      exact mX_ret rfl
    · refine mX_to 1 (k' := 15) (ls' := [some (.ref a0), some (.long a1), none]) (st' := [.long 0]) (h' := h) rfl ?_
      exact mX_ret rfl
theorem D_X11_ofOne (d : Nat) (h : MH) (a0 : Nat) (a1 : Int32) (a2 : Int64) : mE mtab (d + 1) 164 [.ref a0, .int a1, .long a2] h = (if a1 = 5 then some (.long (-a2), h) else (if a1 = 4 then (if (lg_cmp a2 0) ≤ 0 then (if (lg_cmp a2 0) < 0 then some (.long (-1), h) else some (.long 0, h)) else some (.long 1, h)) else ck (kd h a0 = 12) (cL (mE mtab d 163 [.ref a0, .long a2] h) (fun x2 h1 => some (.long x2, h1))))) := by
  refine mE_eq (q := (yX11_ofOne, cX11_ofOne, 4, (some .long), KX11_ofOne)) (C := KX11_ofOne) (ls := [some (.ref a0), some (.int a1), some (.long a2), none]) rfl rfl rfl rfl ?_
  refine mX_to 2 (k' := 2) (ls' := [some (.ref a0), some (.int a1), some (.long a2), none]) (st' := [.int 5, .int a1]) (h' := h) rfl ?_
  refine mX_br (t := 3) (f := 6) (ls' := [some (.ref a0), some (.int a1), some (.long a2), none]) (st' := []) (h' := h) rfl ?_ ?_
  · refine mX_to 3 (k' := 26) (ls' := [some (.ref a0), some (.int a1), some (.long a2), none]) (st' := [.long (-a2)]) (h' := h) rfl ?_
    exact mX_ret rfl
  · refine mX_to 2 (k' := 8) (ls' := [some (.ref a0), some (.int a1), some (.long a2), none]) (st' := [.int 4, .int a1]) (h' := h) rfl ?_
    refine mX_br (t := 9) (f := 23) (ls' := [some (.ref a0), some (.int a1), some (.long a2), none]) (st' := []) (h' := h) rfl ?_ ?_
    · refine mX_to 3 (k' := 12) (ls' := [some (.ref a0), some (.int a1), some (.long a2), none]) (st' := [.int (lg_cmp a2 0)]) (h' := h) rfl ?_
      refine mX_br (t := 15) (f := 13) (ls' := [some (.ref a0), some (.int a1), some (.long a2), none]) (st' := []) (h' := h) rfl ?_ ?_
      · refine mX_to 3 (k' := 18) (ls' := [some (.ref a0), some (.int a1), some (.long a2), none]) (st' := [.int (lg_cmp a2 0)]) (h' := h) rfl ?_
        refine mX_br (t := 19) (f := 21) (ls' := [some (.ref a0), some (.int a1), some (.long a2), none]) (st' := []) (h' := h) rfl ?_ ?_
        · refine mX_to 2 (k' := 26) (ls' := [some (.ref a0), some (.int a1), some (.long a2), none]) (st' := [.long (-1)]) (h' := h) rfl ?_
          exact mX_ret rfl
        · refine mX_to 2 (k' := 26) (ls' := [some (.ref a0), some (.int a1), some (.long a2), none]) (st' := [.long 0]) (h' := h) rfl ?_
          exact mX_ret rfl
      · refine mX_to 2 (k' := 26) (ls' := [some (.ref a0), some (.int a1), some (.long a2), none]) (st' := [.long 1]) (h' := h) rfl ?_
        exact mX_ret rfl
    · refine mX_to 2 (k' := 25) (ls' := [some (.ref a0), some (.int a1), some (.long a2), none]) (st' := [.long a2, .ref a0]) (h' := h) rfl ?_
      refine mX_ckc (m := mcl (mE mtab d 163 [.ref a0, .long a2] h) 2 26 [some (.ref a0), some (.int a1), some (.long a2), none] []) rfl ?_
      refine mk_cL ?_
      intro x2 h1
      exact mX_ret rfl
theorem D_X11_clip (d : Nat) (h : MH) (a0 : Int64) : mE mtab (d + 1) 165 [.long a0] h = (if (lg_cmp a0 1000000) ≤ 0 then (if (lg_cmp a0 (-1000000)) < 0 then some (.long (-1000000), h) else some (.long a0, h)) else some (.long 1000000, h)) := by
  refine mE_eq (q := (yX11_clip, cX11_clip, 2, (some .long), KX11_clip)) (C := KX11_clip) (ls := [some (.long a0), none]) rfl rfl rfl rfl ?_
  refine mX_to 3 (k' := 3) (ls' := [some (.long a0), none]) (st' := [.int (lg_cmp a0 1000000)]) (h' := h) rfl ?_
  refine mX_br (t := 6) (f := 4) (ls' := [some (.long a0), none]) (st' := []) (h' := h) rfl ?_ ?_
  · refine mX_to 3 (k' := 9) (ls' := [some (.long a0), none]) (st' := [.int (lg_cmp a0 (-1000000))]) (h' := h) rfl ?_
    refine mX_br (t := 10) (f := 12) (ls' := [some (.long a0), none]) (st' := []) (h' := h) rfl ?_ ?_
    · refine mX_to 2 (k' := 13) (ls' := [some (.long a0), none]) (st' := [.long (-1000000)]) (h' := h) rfl ?_
      exact mX_ret rfl
    · refine mX_to 1 (k' := 13) (ls' := [some (.long a0), none]) (st' := [.long a0]) (h' := h) rfl ?_
      exact mX_ret rfl
  · refine mX_to 2 (k' := 13) (ls' := [some (.long a0), none]) (st' := [.long 1000000]) (h' := h) rfl ?_
    exact mX_ret rfl
theorem D_X11_two (d : Nat) (h : MH) (a0 : Int32) (a1 : Int64) (a2 : Int64) : mE mtab (d + 1) 166 [.int a0, .long a1, .long a2] h = (if a0 = 6 then cL (mE mtab d 165 [.long (a1 + a2)] h) (fun x2 h1 => some (.long x2, h1)) else (if a0 = 7 then cL (mE mtab d 165 [.long (a1 - a2)] h) (fun x4 h3 => some (.long x4, h3)) else (if a0 = 8 then cL (mE mtab d 165 [.long (a1 * a2)] h) (fun x6 h5 => some (.long x6, h5)) else (if (lg_cmp a2 0) = 0 then some (.long 0, h) else ck (¬ a2 = 0) (cL (mE mtab d 165 [.long (a1 / a2)] h) (fun x8 h7 => some (.long x8, h7))))))) := by
  refine mE_eq (q := (yX11_two, cX11_two, 5, (some .long), KX11_two)) (C := KX11_two) (ls := [some (.int a0), some (.long a1), none, some (.long a2), none]) rfl rfl rfl rfl ?_
  refine mX_to 1 (k' := 1) (ls' := [some (.int a0), some (.long a1), none, some (.long a2), none]) (st' := [.int a0]) (h' := h) rfl ?_
  refine mX_sw (x := a0) (t := 17) (sw := [(6, 2), (7, 7), (8, 12)]) (ls' := [some (.int a0), some (.long a1), none, some (.long a2), none]) (st' := []) (h' := h) rfl ?_
  refine msw_cons ?_ ?_
  · refine mX_to 3 (k' := 5) (ls' := [some (.int a0), some (.long a1), none, some (.long a2), none]) (st' := [.long (a1 + a2)]) (h' := h) rfl ?_
    refine mX_cL (o := mE mtab d 165 [.long (a1 + a2)] h) (k' := 6) (ls' := [some (.int a0), some (.long a1), none, some (.long a2), none]) (st' := []) rfl ?_
    intro x2 h1
    exact mX_ret rfl
  refine msw_cons ?_ ?_
  · refine mX_to 3 (k' := 10) (ls' := [some (.int a0), some (.long a1), none, some (.long a2), none]) (st' := [.long (a1 - a2)]) (h' := h) rfl ?_
    refine mX_cL (o := mE mtab d 165 [.long (a1 - a2)] h) (k' := 11) (ls' := [some (.int a0), some (.long a1), none, some (.long a2), none]) (st' := []) rfl ?_
    intro x4 h3
    exact mX_ret rfl
  refine msw_cons ?_ ?_
  · refine mX_to 3 (k' := 15) (ls' := [some (.int a0), some (.long a1), none, some (.long a2), none]) (st' := [.long (a1 * a2)]) (h' := h) rfl ?_
    refine mX_cL (o := mE mtab d 165 [.long (a1 * a2)] h) (k' := 16) (ls' := [some (.int a0), some (.long a1), none, some (.long a2), none]) (st' := []) rfl ?_
    intro x6 h5
    exact mX_ret rfl
  refine msw_nil ?_
  refine mX_to 3 (k' := 20) (ls' := [some (.int a0), some (.long a1), none, some (.long a2), none]) (st' := [.int (lg_cmp a2 0)]) (h' := h) rfl ?_
  refine mX_br (t := 21) (f := 23) (ls' := [some (.int a0), some (.long a1), none, some (.long a2), none]) (st' := []) (h' := h) rfl ?_ ?_
  · refine mX_to 2 (k' := 27) (ls' := [some (.int a0), some (.long a1), none, some (.long a2), none]) (st' := [.long 0]) (h' := h) rfl ?_
    exact mX_ret rfl
  · refine mX_to 2 (k' := 25) (ls' := [some (.int a0), some (.long a1), none, some (.long a2), none]) (st' := [.long a2, .long a1]) (h' := h) rfl ?_
    refine mX_ck (k' := 26) (ls' := [some (.int a0), some (.long a1), none, some (.long a2), none]) (st' := [.long (a1 / a2)]) (h' := h) rfl ?_
    refine mX_cL (o := mE mtab d 165 [.long (a1 / a2)] h) (k' := 27) (ls' := [some (.int a0), some (.long a1), none, some (.long a2), none]) (st' := []) rfl ?_
    intro x8 h7
    exact mX_ret rfl
theorem D_X11_isAsked (d : Nat) (h : MH) (a0 : Int32) (a1 : Int64) (a2 : Int64) : mE mtab (d + 1) 167 [.int a0, .long a1, .long a2] h = (if a0 = 10 then (if (lg_cmp a1 a2) < 0 then some (.int 1, h) else some (.int 0, h)) else (if a0 = 11 then (if (lg_cmp a1 a2) ≤ 0 then some (.int 1, h) else some (.int 0, h)) else (if a0 = 12 then (if (lg_cmp a1 a2) ≤ 0 then some (.int 0, h) else some (.int 1, h)) else (if a0 = 13 then (if (lg_cmp a1 a2) < 0 then some (.int 0, h) else some (.int 1, h)) else (if a0 = 14 then (if (lg_cmp a1 a2) = 0 then some (.int 1, h) else some (.int 0, h)) else (if (lg_cmp a1 a2) = 0 then some (.int 0, h) else some (.int 1, h))))))) := by
  refine mE_eq (q := (yX11_isAsked, cX11_isAsked, 5, (some .boolean), KX11_isAsked)) (C := KX11_isAsked) (ls := [some (.int a0), some (.long a1), none, some (.long a2), none]) rfl rfl rfl rfl ?_
  refine mX_to 2 (k' := 2) (ls' := [some (.int a0), some (.long a1), none, some (.long a2), none]) (st' := [.int 10, .int a0]) (h' := h) rfl ?_
  refine mX_br (t := 3) (f := 11) (ls' := [some (.int a0), some (.long a1), none, some (.long a2), none]) (st' := []) (h' := h) rfl ?_ ?_
  · refine mX_to 3 (k' := 6) (ls' := [some (.int a0), some (.long a1), none, some (.long a2), none]) (st' := [.int (lg_cmp a1 a2)]) (h' := h) rfl ?_
    refine mX_br (t := 7) (f := 9) (ls' := [some (.int a0), some (.long a1), none, some (.long a2), none]) (st' := []) (h' := h) rfl ?_ ?_
    · refine mX_to 2 (k' := 62) (ls' := [some (.int a0), some (.long a1), none, some (.long a2), none]) (st' := [.int 1]) (h' := h) rfl ?_
      exact mX_retb (by decide) rfl
    · refine mX_to 2 (k' := 62) (ls' := [some (.int a0), some (.long a1), none, some (.long a2), none]) (st' := [.int 0]) (h' := h) rfl ?_
      exact mX_retb (by decide) rfl
  · refine mX_to 2 (k' := 13) (ls' := [some (.int a0), some (.long a1), none, some (.long a2), none]) (st' := [.int 11, .int a0]) (h' := h) rfl ?_
    refine mX_br (t := 14) (f := 22) (ls' := [some (.int a0), some (.long a1), none, some (.long a2), none]) (st' := []) (h' := h) rfl ?_ ?_
    · refine mX_to 3 (k' := 17) (ls' := [some (.int a0), some (.long a1), none, some (.long a2), none]) (st' := [.int (lg_cmp a1 a2)]) (h' := h) rfl ?_
      refine mX_br (t := 18) (f := 20) (ls' := [some (.int a0), some (.long a1), none, some (.long a2), none]) (st' := []) (h' := h) rfl ?_ ?_
      · refine mX_to 2 (k' := 62) (ls' := [some (.int a0), some (.long a1), none, some (.long a2), none]) (st' := [.int 1]) (h' := h) rfl ?_
        exact mX_retb (by decide) rfl
      · refine mX_to 2 (k' := 62) (ls' := [some (.int a0), some (.long a1), none, some (.long a2), none]) (st' := [.int 0]) (h' := h) rfl ?_
        exact mX_retb (by decide) rfl
    · refine mX_to 2 (k' := 24) (ls' := [some (.int a0), some (.long a1), none, some (.long a2), none]) (st' := [.int 12, .int a0]) (h' := h) rfl ?_
      refine mX_br (t := 25) (f := 33) (ls' := [some (.int a0), some (.long a1), none, some (.long a2), none]) (st' := []) (h' := h) rfl ?_ ?_
      · refine mX_to 3 (k' := 28) (ls' := [some (.int a0), some (.long a1), none, some (.long a2), none]) (st' := [.int (lg_cmp a1 a2)]) (h' := h) rfl ?_
        refine mX_br (t := 31) (f := 29) (ls' := [some (.int a0), some (.long a1), none, some (.long a2), none]) (st' := []) (h' := h) rfl ?_ ?_
        · refine mX_to 2 (k' := 62) (ls' := [some (.int a0), some (.long a1), none, some (.long a2), none]) (st' := [.int 0]) (h' := h) rfl ?_
          exact mX_retb (by decide) rfl
        · refine mX_to 2 (k' := 62) (ls' := [some (.int a0), some (.long a1), none, some (.long a2), none]) (st' := [.int 1]) (h' := h) rfl ?_
          exact mX_retb (by decide) rfl
      · refine mX_to 2 (k' := 35) (ls' := [some (.int a0), some (.long a1), none, some (.long a2), none]) (st' := [.int 13, .int a0]) (h' := h) rfl ?_
        refine mX_br (t := 36) (f := 44) (ls' := [some (.int a0), some (.long a1), none, some (.long a2), none]) (st' := []) (h' := h) rfl ?_ ?_
        · refine mX_to 3 (k' := 39) (ls' := [some (.int a0), some (.long a1), none, some (.long a2), none]) (st' := [.int (lg_cmp a1 a2)]) (h' := h) rfl ?_
          refine mX_br (t := 42) (f := 40) (ls' := [some (.int a0), some (.long a1), none, some (.long a2), none]) (st' := []) (h' := h) rfl ?_ ?_
          · refine mX_to 2 (k' := 62) (ls' := [some (.int a0), some (.long a1), none, some (.long a2), none]) (st' := [.int 0]) (h' := h) rfl ?_
            exact mX_retb (by decide) rfl
          · refine mX_to 2 (k' := 62) (ls' := [some (.int a0), some (.long a1), none, some (.long a2), none]) (st' := [.int 1]) (h' := h) rfl ?_
            exact mX_retb (by decide) rfl
        · refine mX_to 2 (k' := 46) (ls' := [some (.int a0), some (.long a1), none, some (.long a2), none]) (st' := [.int 14, .int a0]) (h' := h) rfl ?_
          refine mX_br (t := 47) (f := 55) (ls' := [some (.int a0), some (.long a1), none, some (.long a2), none]) (st' := []) (h' := h) rfl ?_ ?_
          · refine mX_to 3 (k' := 50) (ls' := [some (.int a0), some (.long a1), none, some (.long a2), none]) (st' := [.int (lg_cmp a1 a2)]) (h' := h) rfl ?_
            refine mX_br (t := 51) (f := 53) (ls' := [some (.int a0), some (.long a1), none, some (.long a2), none]) (st' := []) (h' := h) rfl ?_ ?_
            · refine mX_to 2 (k' := 62) (ls' := [some (.int a0), some (.long a1), none, some (.long a2), none]) (st' := [.int 1]) (h' := h) rfl ?_
              exact mX_retb (by decide) rfl
            · refine mX_to 2 (k' := 62) (ls' := [some (.int a0), some (.long a1), none, some (.long a2), none]) (st' := [.int 0]) (h' := h) rfl ?_
              exact mX_retb (by decide) rfl
          · refine mX_to 3 (k' := 58) (ls' := [some (.int a0), some (.long a1), none, some (.long a2), none]) (st' := [.int (lg_cmp a1 a2)]) (h' := h) rfl ?_
            refine mX_br (t := 61) (f := 59) (ls' := [some (.int a0), some (.long a1), none, some (.long a2), none]) (st' := []) (h' := h) rfl ?_ ?_
            · refine mX_to 1 (k' := 62) (ls' := [some (.int a0), some (.long a1), none, some (.long a2), none]) (st' := [.int 0]) (h' := h) rfl ?_
              exact mX_retb (by decide) rfl
            · refine mX_to 2 (k' := 62) (ls' := [some (.int a0), some (.long a1), none, some (.long a2), none]) (st' := [.int 1]) (h' := h) rfl ?_
              exact mX_retb (by decide) rfl
theorem D_X11_joined (d : Nat) (h : MH) (a0 : Int32) (a1 : Int32) (a2 : Int32) : mE mtab (d + 1) 168 [.int a0, .int a1, .int a2] h = (if a0 = 21 then (if a1 = 0 then some (.int 0, h) else (if a2 = 0 then some (.int 0, h) else some (.int 1, h))) else (if a1 = 0 then (if a2 = 0 then some (.int 0, h) else some (.int 1, h)) else some (.int 1, h))) := by
  refine mE_eq (q := (yX11_joined, cX11_joined, 3, (some .boolean), KX11_joined)) (C := KX11_joined) (ls := [some (.int a0), some (.int a1), some (.int a2)]) rfl rfl rfl rfl ?_
  refine mX_to 2 (k' := 2) (ls' := [some (.int a0), some (.int a1), some (.int a2)]) (st' := [.int 21, .int a0]) (h' := h) rfl ?_
  refine mX_br (t := 3) (f := 11) (ls' := [some (.int a0), some (.int a1), some (.int a2)]) (st' := []) (h' := h) rfl ?_ ?_
  · refine mX_to 1 (k' := 4) (ls' := [some (.int a0), some (.int a1), some (.int a2)]) (st' := [.int a1]) (h' := h) rfl ?_
    refine mX_br (t := 9) (f := 5) (ls' := [some (.int a0), some (.int a1), some (.int a2)]) (st' := []) (h' := h) rfl ?_ ?_
    · refine mX_to 2 (k' := 18) (ls' := [some (.int a0), some (.int a1), some (.int a2)]) (st' := [.int 0]) (h' := h) rfl ?_
      exact mX_retb (by decide) rfl
    · refine mX_to 1 (k' := 6) (ls' := [some (.int a0), some (.int a1), some (.int a2)]) (st' := [.int a2]) (h' := h) rfl ?_
      refine mX_br (t := 9) (f := 7) (ls' := [some (.int a0), some (.int a1), some (.int a2)]) (st' := []) (h' := h) rfl ?_ ?_
      · refine mX_to 2 (k' := 18) (ls' := [some (.int a0), some (.int a1), some (.int a2)]) (st' := [.int 0]) (h' := h) rfl ?_
        exact mX_retb (by decide) rfl
      · refine mX_to 2 (k' := 18) (ls' := [some (.int a0), some (.int a1), some (.int a2)]) (st' := [.int 1]) (h' := h) rfl ?_
        exact mX_retb (by decide) rfl
  · refine mX_to 1 (k' := 12) (ls' := [some (.int a0), some (.int a1), some (.int a2)]) (st' := [.int a1]) (h' := h) rfl ?_
    refine mX_br (t := 13) (f := 15) (ls' := [some (.int a0), some (.int a1), some (.int a2)]) (st' := []) (h' := h) rfl ?_ ?_
    · refine mX_to 1 (k' := 14) (ls' := [some (.int a0), some (.int a1), some (.int a2)]) (st' := [.int a2]) (h' := h) rfl ?_
      refine mX_br (t := 17) (f := 15) (ls' := [some (.int a0), some (.int a1), some (.int a2)]) (st' := []) (h' := h) rfl ?_ ?_
      · refine mX_to 1 (k' := 18) (ls' := [some (.int a0), some (.int a1), some (.int a2)]) (st' := [.int 0]) (h' := h) rfl ?_
        exact mX_retb (by decide) rfl
      · refine mX_to 2 (k' := 18) (ls' := [some (.int a0), some (.int a1), some (.int a2)]) (st' := [.int 1]) (h' := h) rfl ?_
        exact mX_retb (by decide) rfl
    · refine mX_to 2 (k' := 18) (ls' := [some (.int a0), some (.int a1), some (.int a2)]) (st' := [.int 1]) (h' := h) rfl ?_
      exact mX_retb (by decide) rfl
theorem D_X11_summedUp_27 (d : Nat) (h : MH) (l0 : Nat) (l1 : Int32) (l2 : Int32) (l3 : Int32) (l4 : Int32) (l5 : Int32) (l6 : Int32) (l7 : Int32) (o8 : Option Value) (o9 : Option Value) : mX (mE mtab d) KX11_summedUp 27 [some (.ref l0), some (.int l1), some (.int l2), some (.int l3), some (.int l4), some (.int l5), some (.int l6), some (.int l7), o8, o9] [] h = ck (kd h l0 = 12) (ck ((kd h (gR h l0 2) = 20 ∨ kd h (gR h l0 2) = 24) ∧ ib (l3 + 2) (ln h (gR h l0 2))) ((if l7 < (gI h (gR h l0 2) (ix (l3 + 2))) then ck (kd h l0 = 12) (ck ((kd h (gR h l0 2) = 20 ∨ kd h (gR h l0 2) = 24) ∧ ib (l4 + (2 * l7)) (ln h (gR h l0 2))) (lt_ (gI h (gR h l0 2) (ix (l4 + (2 * l7)))) fun v4 => ck (kd h l0 = 12) (ck ((kd h (gR h l0 2) = 20 ∨ kd h (gR h l0 2) = 24) ∧ ib ((l4 + (2 * l7)) + 1) (ln h (gR h l0 2))) (lt_ (gI h (gR h l0 2) (ix ((l4 + (2 * l7)) + 1))) fun v5 => (if v4 ≤ 1 then ck (kd h l0 = 12) ((if v4 = 0 then mX (mE mtab d) KX11_summedUp 71 [some (.ref l0), some (.int l1), some (.int l2), some (.int l3), some (.int l4), some (.int l5), some (.int l6), some (.int l7), some (.int v4), some (.int v5)] [.long ((v5 : Int32).toInt64), .int l5, .ref (gR h l0 21)] h else ck (kd h l0 = 12) (ck ((kd h (gR h l0 20) = 20 ∨ kd h (gR h l0 20) = 24) ∧ ib v5 (ln h (gR h l0 20))) (mX (mE mtab d) KX11_summedUp 71 [some (.ref l0), some (.int l1), some (.int l2), some (.int l3), some (.int l4), some (.int l5), some (.int l6), some (.int l7), some (.int v4), some (.int v5)] [.long (((gI h (gR h l0 20) (ix v5)) : Int32).toInt64), .int l5, .ref (gR h l0 21)] h)))) else (if v4 = 3 then ck (kd h l0 = 12) (ck ((kd h (gR h l0 22) = 22 ∨ kd h (gR h l0 22) = 26) ∧ ib (l6 + (-1)) (ln h (gR h l0 22))) ((if (gI h (gR h l0 22) (ix (l6 + (-1)))) = 0 then ck (kd h l0 = 12) (ck (kd h l0 = 12) (ck (kd h (gR h l0 21) = 21 ∧ ib (l5 + (-1)) (ln h (gR h l0 21))) (ck (kd h (gR h l0 21) = 21 ∧ ib ((l5 + (-1)) - 1) (ln h (gR h l0 21))) (lt_ (sL h (gR h l0 21) (ix ((l5 + (-1)) - 1)) (gL h (gR h l0 21) (ix (l5 + (-1))))) fun h8 => mX (mE mtab d) KX11_summedUp 198 [some (.ref l0), some (.int l1), some (.int l2), some (.int l3), some (.int l4), some (.int (l5 + (-1))), some (.int (l6 + (-1))), some (.int l7), some (.int v4), some (.int v5)] [] h8)))) else mX (mE mtab d) KX11_summedUp 198 [some (.ref l0), some (.int l1), some (.int l2), some (.int l3), some (.int l4), some (.int (l5 + (-1))), some (.int (l6 + (-1))), some (.int l7), some (.int v4), some (.int v5)] [] h))) else (if v4 ≤ 5 then ck (kd h l0 = 12) (ck (kd h l0 = 12) (ck (kd h (gR h l0 21) = 21 ∧ ib (l5 - 1) (ln h (gR h l0 21))) (ck (kd h l0 = 12) (cL (mE mtab d 164 [.ref l0, .int v4, .long (gL h (gR h l0 21) (ix (l5 - 1)))] h) (fun x10 h9 => ck (kd h9 (gR h l0 21) = 21 ∧ ib (l5 - 1) (ln h9 (gR h l0 21))) (lt_ (sL h9 (gR h l0 21) (ix (l5 - 1)) x10) fun h11 => mX (mE mtab d) KX11_summedUp 198 [some (.ref l0), some (.int l1), some (.int l2), some (.int l3), some (.int l4), some (.int l5), some (.int l6), some (.int l7), some (.int v4), some (.int v5)] [] h11)))))) else (if v4 < 10 then ck (kd h l0 = 12) (ck (kd h l0 = 12) (ck (kd h (gR h l0 21) = 21 ∧ ib ((l5 + (-1)) - 1) (ln h (gR h l0 21))) (ck (kd h l0 = 12) (ck (kd h (gR h l0 21) = 21 ∧ ib (l5 + (-1)) (ln h (gR h l0 21))) (cL (mE mtab d 166 [.int v4, .long (gL h (gR h l0 21) (ix ((l5 + (-1)) - 1))), .long (gL h (gR h l0 21) (ix (l5 + (-1))))] h) (fun x14 h13 => ck (kd h13 (gR h l0 21) = 21 ∧ ib ((l5 + (-1)) - 1) (ln h13 (gR h l0 21))) (lt_ (sL h13 (gR h l0 21) (ix ((l5 + (-1)) - 1)) x14) fun h15 => mX (mE mtab d) KX11_summedUp 198 [some (.ref l0), some (.int l1), some (.int l2), some (.int l3), some (.int l4), some (.int (l5 + (-1))), some (.int l6), some (.int l7), some (.int v4), some (.int v5)] [] h15))))))) else (if v4 < 20 then ck (kd h l0 = 12) (ck (kd h l0 = 12) (ck (kd h (gR h l0 21) = 21 ∧ ib (l5 + (-2)) (ln h (gR h l0 21))) (ck (kd h l0 = 12) (ck (kd h (gR h l0 21) = 21 ∧ ib ((l5 + (-2)) + 1) (ln h (gR h l0 21))) (cI (mE mtab d 167 [.int v4, .long (gL h (gR h l0 21) (ix (l5 + (-2)))), .long (gL h (gR h l0 21) (ix ((l5 + (-2)) + 1)))] h) (fun x18 h17 => ck (kd h17 (gR h l0 22) = 22 ∧ ib l6 (ln h17 (gR h l0 22)) ∧ (x18 = 0 ∨ x18 = 1)) (lt_ (sI h17 (gR h l0 22) (ix l6) x18) fun h19 => mX (mE mtab d) KX11_summedUp 198 [some (.ref l0), some (.int l1), some (.int l2), some (.int l3), some (.int l4), some (.int (l5 + (-2))), some (.int (l6 + 1)), some (.int l7), some (.int v4), some (.int v5)] [] h19))))))) else (if v4 = 20 then ck (kd h l0 = 12) (ck (kd h l0 = 12) (ck ((kd h (gR h l0 22) = 22 ∨ kd h (gR h l0 22) = 26) ∧ ib (l6 - 1) (ln h (gR h l0 22))) ((if (gI h (gR h l0 22) (ix (l6 - 1))) = 0 then mX (mE mtab d) KX11_summedUp 177 [some (.ref l0), some (.int l1), some (.int l2), some (.int l3), some (.int l4), some (.int l5), some (.int l6), some (.int l7), some (.int v4), some (.int v5)] [.int 1, .int (l6 - 1), .ref (gR h l0 22)] h else mX (mE mtab d) KX11_summedUp 177 [some (.ref l0), some (.int l1), some (.int l2), some (.int l3), some (.int l4), some (.int l5), some (.int l6), some (.int l7), some (.int v4), some (.int v5)] [.int 0, .int (l6 - 1), .ref (gR h l0 22)] h)))) else ck (kd h l0 = 12) (ck (kd h l0 = 12) (ck ((kd h (gR h l0 22) = 22 ∨ kd h (gR h l0 22) = 26) ∧ ib ((l6 + (-1)) - 1) (ln h (gR h l0 22))) (ck (kd h l0 = 12) (ck ((kd h (gR h l0 22) = 22 ∨ kd h (gR h l0 22) = 26) ∧ ib (l6 + (-1)) (ln h (gR h l0 22))) (cI (mE mtab d 168 [.int v4, .int (gI h (gR h l0 22) (ix ((l6 + (-1)) - 1))), .int (gI h (gR h l0 22) (ix (l6 + (-1))))] h) (fun x23 h22 => ck (kd h22 (gR h l0 22) = 22 ∧ ib ((l6 + (-1)) - 1) (ln h22 (gR h l0 22)) ∧ (x23 = 0 ∨ x23 = 1)) (lt_ (sI h22 (gR h l0 22) (ix ((l6 + (-1)) - 1)) x23) fun h24 => mX (mE mtab d) KX11_summedUp 198 [some (.ref l0), some (.int l1), some (.int l2), some (.int l3), some (.int l4), some (.int l5), some (.int (l6 + (-1))), some (.int l7), some (.int v4), some (.int v5)] [] h24))))))))))))))))) else ck (kd h l0 = 12) (ck (kd h (gR h l0 21) = 21 ∧ ib (0 : Int32) (ln h (gR h l0 21))) (some (.long (gL h (gR h l0 21) (ix (0 : Int32))), h)))))) := by
  refine mX_to 2 (k' := 29) (ls' := [some (.ref l0), some (.int l1), some (.int l2), some (.int l3), some (.int l4), some (.int l5), some (.int l6), some (.int l7), o8, o9]) (st' := [.ref l0, .int l7]) (h' := h) rfl ?_
  refine mX_ck (k' := 30) (ls' := [some (.ref l0), some (.int l1), some (.int l2), some (.int l3), some (.int l4), some (.int l5), some (.int l6), some (.int l7), o8, o9]) (st' := [.ref (gR h l0 2), .int l7]) (h' := h) rfl ?_
  refine mX_to 3 (k' := 33) (ls' := [some (.ref l0), some (.int l1), some (.int l2), some (.int l3), some (.int l4), some (.int l5), some (.int l6), some (.int l7), o8, o9]) (st' := [.int (l3 + 2), .ref (gR h l0 2), .int l7]) (h' := h) rfl ?_
  refine mX_ck (k' := 34) (ls' := [some (.ref l0), some (.int l1), some (.int l2), some (.int l3), some (.int l4), some (.int l5), some (.int l6), some (.int l7), o8, o9]) (st' := [.int (gI h (gR h l0 2) (ix (l3 + 2))), .int l7]) (h' := h) rfl ?_
  refine mX_br (t := 35) (f := 200) (ls' := [some (.ref l0), some (.int l1), some (.int l2), some (.int l3), some (.int l4), some (.int l5), some (.int l6), some (.int l7), o8, o9]) (st' := []) (h' := h) rfl ?_ ?_
  · refine mX_to 1 (k' := 36) (ls' := [some (.ref l0), some (.int l1), some (.int l2), some (.int l3), some (.int l4), some (.int l5), some (.int l6), some (.int l7), o8, o9]) (st' := [.ref l0]) (h' := h) rfl ?_
    refine mX_ck (k' := 37) (ls' := [some (.ref l0), some (.int l1), some (.int l2), some (.int l3), some (.int l4), some (.int l5), some (.int l6), some (.int l7), o8, o9]) (st' := [.ref (gR h l0 2)]) (h' := h) rfl ?_
    refine mX_to 5 (k' := 42) (ls' := [some (.ref l0), some (.int l1), some (.int l2), some (.int l3), some (.int l4), some (.int l5), some (.int l6), some (.int l7), o8, o9]) (st' := [.int (l4 + (2 * l7)), .ref (gR h l0 2)]) (h' := h) rfl ?_
    refine mX_ck (k' := 43) (ls' := [some (.ref l0), some (.int l1), some (.int l2), some (.int l3), some (.int l4), some (.int l5), some (.int l6), some (.int l7), o8, o9]) (st' := [.int (gI h (gR h l0 2) (ix (l4 + (2 * l7))))]) (h' := h) rfl ?_
    refine lt_gen (X := fun v4 : Int32 => mX (mE mtab d) KX11_summedUp 43 [some (.ref l0), some (.int l1), some (.int l2), some (.int l3), some (.int l4), some (.int l5), some (.int l6), some (.int l7), o8, o9] [.int v4] h) fun v4 => ?_
    refine mX_to 2 (k' := 45) (ls' := [some (.ref l0), some (.int l1), some (.int l2), some (.int l3), some (.int l4), some (.int l5), some (.int l6), some (.int l7), some (.int v4), o9]) (st' := [.ref l0]) (h' := h) rfl ?_
    refine mX_ck (k' := 46) (ls' := [some (.ref l0), some (.int l1), some (.int l2), some (.int l3), some (.int l4), some (.int l5), some (.int l6), some (.int l7), some (.int v4), o9]) (st' := [.ref (gR h l0 2)]) (h' := h) rfl ?_
    refine mX_to 7 (k' := 53) (ls' := [some (.ref l0), some (.int l1), some (.int l2), some (.int l3), some (.int l4), some (.int l5), some (.int l6), some (.int l7), some (.int v4), o9]) (st' := [.int ((l4 + (2 * l7)) + 1), .ref (gR h l0 2)]) (h' := h) rfl ?_
    refine mX_ck (k' := 54) (ls' := [some (.ref l0), some (.int l1), some (.int l2), some (.int l3), some (.int l4), some (.int l5), some (.int l6), some (.int l7), some (.int v4), o9]) (st' := [.int (gI h (gR h l0 2) (ix ((l4 + (2 * l7)) + 1)))]) (h' := h) rfl ?_
    refine lt_gen (X := fun v5 : Int32 => mX (mE mtab d) KX11_summedUp 54 [some (.ref l0), some (.int l1), some (.int l2), some (.int l3), some (.int l4), some (.int l5), some (.int l6), some (.int l7), some (.int v4), o9] [.int v5] h) fun v5 => ?_
    refine mX_to 3 (k' := 57) (ls' := [some (.ref l0), some (.int l1), some (.int l2), some (.int l3), some (.int l4), some (.int l5), some (.int l6), some (.int l7), some (.int v4), some (.int v5)]) (st' := [.int 1, .int v4]) (h' := h) rfl ?_
    refine mX_br (t := 58) (f := 74) (ls' := [some (.ref l0), some (.int l1), some (.int l2), some (.int l3), some (.int l4), some (.int l5), some (.int l6), some (.int l7), some (.int v4), some (.int v5)]) (st' := []) (h' := h) rfl ?_ ?_
    · refine mX_to 1 (k' := 59) (ls' := [some (.ref l0), some (.int l1), some (.int l2), some (.int l3), some (.int l4), some (.int l5), some (.int l6), some (.int l7), some (.int v4), some (.int v5)]) (st' := [.ref l0]) (h' := h) rfl ?_
      refine mX_ck (k' := 60) (ls' := [some (.ref l0), some (.int l1), some (.int l2), some (.int l3), some (.int l4), some (.int l5), some (.int l6), some (.int l7), some (.int v4), some (.int v5)]) (st' := [.ref (gR h l0 21)]) (h' := h) rfl ?_
      refine mX_to 2 (k' := 62) (ls' := [some (.ref l0), some (.int l1), some (.int l2), some (.int l3), some (.int l4), some (.int l5), some (.int l6), some (.int l7), some (.int v4), some (.int v5)]) (st' := [.int v4, .int l5, .ref (gR h l0 21)]) (h' := h) rfl ?_
      refine mX_br (t := 63) (f := 66) (ls' := [some (.ref l0), some (.int l1), some (.int l2), some (.int l3), some (.int l4), some (.int l5), some (.int l6), some (.int l7), some (.int v4), some (.int v5)]) (st' := [.int l5, .ref (gR h l0 21)]) (h' := h) rfl ?_ ?_
      · refine mX_to 3 (k' := 71) (ls' := [some (.ref l0), some (.int l1), some (.int l2), some (.int l3), some (.int l4), some (.int l5), some (.int l6), some (.int l7), some (.int v4), some (.int v5)]) (st' := [.long ((v5 : Int32).toInt64), .int l5, .ref (gR h l0 21)]) (h' := h) rfl ?_
        rfl
      · refine mX_to 1 (k' := 67) (ls' := [some (.ref l0), some (.int l1), some (.int l2), some (.int l3), some (.int l4), some (.int l5), some (.int l6), some (.int l7), some (.int v4), some (.int v5)]) (st' := [.ref l0, .int l5, .ref (gR h l0 21)]) (h' := h) rfl ?_
        refine mX_ck (k' := 68) (ls' := [some (.ref l0), some (.int l1), some (.int l2), some (.int l3), some (.int l4), some (.int l5), some (.int l6), some (.int l7), some (.int v4), some (.int v5)]) (st' := [.ref (gR h l0 20), .int l5, .ref (gR h l0 21)]) (h' := h) rfl ?_
        refine mX_to 1 (k' := 69) (ls' := [some (.ref l0), some (.int l1), some (.int l2), some (.int l3), some (.int l4), some (.int l5), some (.int l6), some (.int l7), some (.int v4), some (.int v5)]) (st' := [.int v5, .ref (gR h l0 20), .int l5, .ref (gR h l0 21)]) (h' := h) rfl ?_
        refine mX_ck (k' := 70) (ls' := [some (.ref l0), some (.int l1), some (.int l2), some (.int l3), some (.int l4), some (.int l5), some (.int l6), some (.int l7), some (.int v4), some (.int v5)]) (st' := [.int (gI h (gR h l0 20) (ix v5)), .int l5, .ref (gR h l0 21)]) (h' := h) rfl ?_
        refine mX_to 1 (k' := 71) (ls' := [some (.ref l0), some (.int l1), some (.int l2), some (.int l3), some (.int l4), some (.int l5), some (.int l6), some (.int l7), some (.int v4), some (.int v5)]) (st' := [.long (((gI h (gR h l0 20) (ix v5)) : Int32).toInt64), .int l5, .ref (gR h l0 21)]) (h' := h) rfl ?_
        rfl
    · refine mX_to 2 (k' := 76) (ls' := [some (.ref l0), some (.int l1), some (.int l2), some (.int l3), some (.int l4), some (.int l5), some (.int l6), some (.int l7), some (.int v4), some (.int v5)]) (st' := [.int 3, .int v4]) (h' := h) rfl ?_
      refine mX_br (t := 77) (f := 95) (ls' := [some (.ref l0), some (.int l1), some (.int l2), some (.int l3), some (.int l4), some (.int l5), some (.int l6), some (.int l7), some (.int v4), some (.int v5)]) (st' := []) (h' := h) rfl ?_ ?_
      · refine mX_to 3 (k' := 80) (ls' := [some (.ref l0), some (.int l1), some (.int l2), some (.int l3), some (.int l4), some (.int (l5 + (-1))), some (.int (l6 + (-1))), some (.int l7), some (.int v4), some (.int v5)]) (st' := [.ref l0]) (h' := h) rfl ?_
        refine mX_ck (k' := 81) (ls' := [some (.ref l0), some (.int l1), some (.int l2), some (.int l3), some (.int l4), some (.int (l5 + (-1))), some (.int (l6 + (-1))), some (.int l7), some (.int v4), some (.int v5)]) (st' := [.ref (gR h l0 22)]) (h' := h) rfl ?_
        refine mX_to 1 (k' := 82) (ls' := [some (.ref l0), some (.int l1), some (.int l2), some (.int l3), some (.int l4), some (.int (l5 + (-1))), some (.int (l6 + (-1))), some (.int l7), some (.int v4), some (.int v5)]) (st' := [.int (l6 + (-1)), .ref (gR h l0 22)]) (h' := h) rfl ?_
        refine mX_ck (k' := 83) (ls' := [some (.ref l0), some (.int l1), some (.int l2), some (.int l3), some (.int l4), some (.int (l5 + (-1))), some (.int (l6 + (-1))), some (.int l7), some (.int v4), some (.int v5)]) (st' := [.int (gI h (gR h l0 22) (ix (l6 + (-1))))]) (h' := h) rfl ?_
        refine mX_br (t := 84) (f := 198) (ls' := [some (.ref l0), some (.int l1), some (.int l2), some (.int l3), some (.int l4), some (.int (l5 + (-1))), some (.int (l6 + (-1))), some (.int l7), some (.int v4), some (.int v5)]) (st' := []) (h' := h) rfl ?_ ?_
        · refine mX_to 1 (k' := 85) (ls' := [some (.ref l0), some (.int l1), some (.int l2), some (.int l3), some (.int l4), some (.int (l5 + (-1))), some (.int (l6 + (-1))), some (.int l7), some (.int v4), some (.int v5)]) (st' := [.ref l0]) (h' := h) rfl ?_
          refine mX_ck (k' := 86) (ls' := [some (.ref l0), some (.int l1), some (.int l2), some (.int l3), some (.int l4), some (.int (l5 + (-1))), some (.int (l6 + (-1))), some (.int l7), some (.int v4), some (.int v5)]) (st' := [.ref (gR h l0 21)]) (h' := h) rfl ?_
          refine mX_to 4 (k' := 90) (ls' := [some (.ref l0), some (.int l1), some (.int l2), some (.int l3), some (.int l4), some (.int (l5 + (-1))), some (.int (l6 + (-1))), some (.int l7), some (.int v4), some (.int v5)]) (st' := [.ref l0, .int ((l5 + (-1)) - 1), .ref (gR h l0 21)]) (h' := h) rfl ?_
          refine mX_ck (k' := 91) (ls' := [some (.ref l0), some (.int l1), some (.int l2), some (.int l3), some (.int l4), some (.int (l5 + (-1))), some (.int (l6 + (-1))), some (.int l7), some (.int v4), some (.int v5)]) (st' := [.ref (gR h l0 21), .int ((l5 + (-1)) - 1), .ref (gR h l0 21)]) (h' := h) rfl ?_
          refine mX_to 1 (k' := 92) (ls' := [some (.ref l0), some (.int l1), some (.int l2), some (.int l3), some (.int l4), some (.int (l5 + (-1))), some (.int (l6 + (-1))), some (.int l7), some (.int v4), some (.int v5)]) (st' := [.int (l5 + (-1)), .ref (gR h l0 21), .int ((l5 + (-1)) - 1), .ref (gR h l0 21)]) (h' := h) rfl ?_
          refine mX_ck (k' := 93) (ls' := [some (.ref l0), some (.int l1), some (.int l2), some (.int l3), some (.int l4), some (.int (l5 + (-1))), some (.int (l6 + (-1))), some (.int l7), some (.int v4), some (.int v5)]) (st' := [.long (gL h (gR h l0 21) (ix (l5 + (-1)))), .int ((l5 + (-1)) - 1), .ref (gR h l0 21)]) (h' := h) rfl ?_
          refine mX_ck (k' := 94) (ls' := [some (.ref l0), some (.int l1), some (.int l2), some (.int l3), some (.int l4), some (.int (l5 + (-1))), some (.int (l6 + (-1))), some (.int l7), some (.int v4), some (.int v5)]) (st' := []) (h' := (sL h (gR h l0 21) (ix ((l5 + (-1)) - 1)) (gL h (gR h l0 21) (ix (l5 + (-1)))))) rfl ?_
          refine lt_gen (X := fun h8 : MH => mX (mE mtab d) KX11_summedUp 94 [some (.ref l0), some (.int l1), some (.int l2), some (.int l3), some (.int l4), some (.int (l5 + (-1))), some (.int (l6 + (-1))), some (.int l7), some (.int v4), some (.int v5)] [] h8) fun h8 => ?_
          refine mX_to 1 (k' := 198) (ls' := [some (.ref l0), some (.int l1), some (.int l2), some (.int l3), some (.int l4), some (.int (l5 + (-1))), some (.int (l6 + (-1))), some (.int l7), some (.int v4), some (.int v5)]) (st' := []) (h' := h8) rfl ?_
          rfl
        · rfl
      · refine mX_to 2 (k' := 97) (ls' := [some (.ref l0), some (.int l1), some (.int l2), some (.int l3), some (.int l4), some (.int l5), some (.int l6), some (.int l7), some (.int v4), some (.int v5)]) (st' := [.int 5, .int v4]) (h' := h) rfl ?_
        refine mX_br (t := 98) (f := 114) (ls' := [some (.ref l0), some (.int l1), some (.int l2), some (.int l3), some (.int l4), some (.int l5), some (.int l6), some (.int l7), some (.int v4), some (.int v5)]) (st' := []) (h' := h) rfl ?_ ?_
        · refine mX_to 1 (k' := 99) (ls' := [some (.ref l0), some (.int l1), some (.int l2), some (.int l3), some (.int l4), some (.int l5), some (.int l6), some (.int l7), some (.int v4), some (.int v5)]) (st' := [.ref l0]) (h' := h) rfl ?_
          refine mX_ck (k' := 100) (ls' := [some (.ref l0), some (.int l1), some (.int l2), some (.int l3), some (.int l4), some (.int l5), some (.int l6), some (.int l7), some (.int v4), some (.int v5)]) (st' := [.ref (gR h l0 21)]) (h' := h) rfl ?_
          refine mX_to 6 (k' := 106) (ls' := [some (.ref l0), some (.int l1), some (.int l2), some (.int l3), some (.int l4), some (.int l5), some (.int l6), some (.int l7), some (.int v4), some (.int v5)]) (st' := [.ref l0, .int v4, .ref l0, .int (l5 - 1), .ref (gR h l0 21)]) (h' := h) rfl ?_
          refine mX_ck (k' := 107) (ls' := [some (.ref l0), some (.int l1), some (.int l2), some (.int l3), some (.int l4), some (.int l5), some (.int l6), some (.int l7), some (.int v4), some (.int v5)]) (st' := [.ref (gR h l0 21), .int v4, .ref l0, .int (l5 - 1), .ref (gR h l0 21)]) (h' := h) rfl ?_
          refine mX_to 3 (k' := 110) (ls' := [some (.ref l0), some (.int l1), some (.int l2), some (.int l3), some (.int l4), some (.int l5), some (.int l6), some (.int l7), some (.int v4), some (.int v5)]) (st' := [.int (l5 - 1), .ref (gR h l0 21), .int v4, .ref l0, .int (l5 - 1), .ref (gR h l0 21)]) (h' := h) rfl ?_
          refine mX_ck (k' := 111) (ls' := [some (.ref l0), some (.int l1), some (.int l2), some (.int l3), some (.int l4), some (.int l5), some (.int l6), some (.int l7), some (.int v4), some (.int v5)]) (st' := [.long (gL h (gR h l0 21) (ix (l5 - 1))), .int v4, .ref l0, .int (l5 - 1), .ref (gR h l0 21)]) (h' := h) rfl ?_
          refine mX_ckc (m := mcl (mE mtab d 164 [.ref l0, .int v4, .long (gL h (gR h l0 21) (ix (l5 - 1)))] h) 2 112 [some (.ref l0), some (.int l1), some (.int l2), some (.int l3), some (.int l4), some (.int l5), some (.int l6), some (.int l7), some (.int v4), some (.int v5)] [.int (l5 - 1), .ref (gR h l0 21)]) rfl ?_
          refine mk_cL ?_
          intro x10 h9
          refine mX_ck (k' := 113) (ls' := [some (.ref l0), some (.int l1), some (.int l2), some (.int l3), some (.int l4), some (.int l5), some (.int l6), some (.int l7), some (.int v4), some (.int v5)]) (st' := []) (h' := (sL h9 (gR h l0 21) (ix (l5 - 1)) x10)) rfl ?_
          refine lt_gen (X := fun h11 : MH => mX (mE mtab d) KX11_summedUp 113 [some (.ref l0), some (.int l1), some (.int l2), some (.int l3), some (.int l4), some (.int l5), some (.int l6), some (.int l7), some (.int v4), some (.int v5)] [] h11) fun h11 => ?_
          refine mX_to 1 (k' := 198) (ls' := [some (.ref l0), some (.int l1), some (.int l2), some (.int l3), some (.int l4), some (.int l5), some (.int l6), some (.int l7), some (.int v4), some (.int v5)]) (st' := []) (h' := h11) rfl ?_
          rfl
        · refine mX_to 2 (k' := 116) (ls' := [some (.ref l0), some (.int l1), some (.int l2), some (.int l3), some (.int l4), some (.int l5), some (.int l6), some (.int l7), some (.int v4), some (.int v5)]) (st' := [.int 10, .int v4]) (h' := h) rfl ?_
          refine mX_br (t := 117) (f := 137) (ls' := [some (.ref l0), some (.int l1), some (.int l2), some (.int l3), some (.int l4), some (.int l5), some (.int l6), some (.int l7), some (.int v4), some (.int v5)]) (st' := []) (h' := h) rfl ?_ ?_
          · refine mX_to 2 (k' := 119) (ls' := [some (.ref l0), some (.int l1), some (.int l2), some (.int l3), some (.int l4), some (.int (l5 + (-1))), some (.int l6), some (.int l7), some (.int v4), some (.int v5)]) (st' := [.ref l0]) (h' := h) rfl ?_
            refine mX_ck (k' := 120) (ls' := [some (.ref l0), some (.int l1), some (.int l2), some (.int l3), some (.int l4), some (.int (l5 + (-1))), some (.int l6), some (.int l7), some (.int v4), some (.int v5)]) (st' := [.ref (gR h l0 21)]) (h' := h) rfl ?_
            refine mX_to 5 (k' := 125) (ls' := [some (.ref l0), some (.int l1), some (.int l2), some (.int l3), some (.int l4), some (.int (l5 + (-1))), some (.int l6), some (.int l7), some (.int v4), some (.int v5)]) (st' := [.ref l0, .int v4, .int ((l5 + (-1)) - 1), .ref (gR h l0 21)]) (h' := h) rfl ?_
            refine mX_ck (k' := 126) (ls' := [some (.ref l0), some (.int l1), some (.int l2), some (.int l3), some (.int l4), some (.int (l5 + (-1))), some (.int l6), some (.int l7), some (.int v4), some (.int v5)]) (st' := [.ref (gR h l0 21), .int v4, .int ((l5 + (-1)) - 1), .ref (gR h l0 21)]) (h' := h) rfl ?_
            refine mX_to 3 (k' := 129) (ls' := [some (.ref l0), some (.int l1), some (.int l2), some (.int l3), some (.int l4), some (.int (l5 + (-1))), some (.int l6), some (.int l7), some (.int v4), some (.int v5)]) (st' := [.int ((l5 + (-1)) - 1), .ref (gR h l0 21), .int v4, .int ((l5 + (-1)) - 1), .ref (gR h l0 21)]) (h' := h) rfl ?_
            refine mX_ck (k' := 130) (ls' := [some (.ref l0), some (.int l1), some (.int l2), some (.int l3), some (.int l4), some (.int (l5 + (-1))), some (.int l6), some (.int l7), some (.int v4), some (.int v5)]) (st' := [.long (gL h (gR h l0 21) (ix ((l5 + (-1)) - 1))), .int v4, .int ((l5 + (-1)) - 1), .ref (gR h l0 21)]) (h' := h) rfl ?_
            refine mX_to 1 (k' := 131) (ls' := [some (.ref l0), some (.int l1), some (.int l2), some (.int l3), some (.int l4), some (.int (l5 + (-1))), some (.int l6), some (.int l7), some (.int v4), some (.int v5)]) (st' := [.ref l0, .long (gL h (gR h l0 21) (ix ((l5 + (-1)) - 1))), .int v4, .int ((l5 + (-1)) - 1), .ref (gR h l0 21)]) (h' := h) rfl ?_
            refine mX_ck (k' := 132) (ls' := [some (.ref l0), some (.int l1), some (.int l2), some (.int l3), some (.int l4), some (.int (l5 + (-1))), some (.int l6), some (.int l7), some (.int v4), some (.int v5)]) (st' := [.ref (gR h l0 21), .long (gL h (gR h l0 21) (ix ((l5 + (-1)) - 1))), .int v4, .int ((l5 + (-1)) - 1), .ref (gR h l0 21)]) (h' := h) rfl ?_
            refine mX_to 1 (k' := 133) (ls' := [some (.ref l0), some (.int l1), some (.int l2), some (.int l3), some (.int l4), some (.int (l5 + (-1))), some (.int l6), some (.int l7), some (.int v4), some (.int v5)]) (st' := [.int (l5 + (-1)), .ref (gR h l0 21), .long (gL h (gR h l0 21) (ix ((l5 + (-1)) - 1))), .int v4, .int ((l5 + (-1)) - 1), .ref (gR h l0 21)]) (h' := h) rfl ?_
            refine mX_ck (k' := 134) (ls' := [some (.ref l0), some (.int l1), some (.int l2), some (.int l3), some (.int l4), some (.int (l5 + (-1))), some (.int l6), some (.int l7), some (.int v4), some (.int v5)]) (st' := [.long (gL h (gR h l0 21) (ix (l5 + (-1)))), .long (gL h (gR h l0 21) (ix ((l5 + (-1)) - 1))), .int v4, .int ((l5 + (-1)) - 1), .ref (gR h l0 21)]) (h' := h) rfl ?_
            refine mX_cL (o := mE mtab d 166 [.int v4, .long (gL h (gR h l0 21) (ix ((l5 + (-1)) - 1))), .long (gL h (gR h l0 21) (ix (l5 + (-1))))] h) (k' := 135) (ls' := [some (.ref l0), some (.int l1), some (.int l2), some (.int l3), some (.int l4), some (.int (l5 + (-1))), some (.int l6), some (.int l7), some (.int v4), some (.int v5)]) (st' := [.int ((l5 + (-1)) - 1), .ref (gR h l0 21)]) rfl ?_
            intro x14 h13
            refine mX_ck (k' := 136) (ls' := [some (.ref l0), some (.int l1), some (.int l2), some (.int l3), some (.int l4), some (.int (l5 + (-1))), some (.int l6), some (.int l7), some (.int v4), some (.int v5)]) (st' := []) (h' := (sL h13 (gR h l0 21) (ix ((l5 + (-1)) - 1)) x14)) rfl ?_
            refine lt_gen (X := fun h15 : MH => mX (mE mtab d) KX11_summedUp 136 [some (.ref l0), some (.int l1), some (.int l2), some (.int l3), some (.int l4), some (.int (l5 + (-1))), some (.int l6), some (.int l7), some (.int v4), some (.int v5)] [] h15) fun h15 => ?_
            refine mX_to 1 (k' := 198) (ls' := [some (.ref l0), some (.int l1), some (.int l2), some (.int l3), some (.int l4), some (.int (l5 + (-1))), some (.int l6), some (.int l7), some (.int v4), some (.int v5)]) (st' := []) (h' := h15) rfl ?_
            rfl
          · refine mX_to 2 (k' := 139) (ls' := [some (.ref l0), some (.int l1), some (.int l2), some (.int l3), some (.int l4), some (.int l5), some (.int l6), some (.int l7), some (.int v4), some (.int v5)]) (st' := [.int 20, .int v4]) (h' := h) rfl ?_
            refine mX_br (t := 140) (f := 159) (ls' := [some (.ref l0), some (.int l1), some (.int l2), some (.int l3), some (.int l4), some (.int l5), some (.int l6), some (.int l7), some (.int v4), some (.int v5)]) (st' := []) (h' := h) rfl ?_ ?_
            · refine mX_to 2 (k' := 142) (ls' := [some (.ref l0), some (.int l1), some (.int l2), some (.int l3), some (.int l4), some (.int (l5 + (-2))), some (.int l6), some (.int l7), some (.int v4), some (.int v5)]) (st' := [.ref l0]) (h' := h) rfl ?_
              refine mX_ck (k' := 143) (ls' := [some (.ref l0), some (.int l1), some (.int l2), some (.int l3), some (.int l4), some (.int (l5 + (-2))), some (.int l6), some (.int l7), some (.int v4), some (.int v5)]) (st' := [.ref (gR h l0 22)]) (h' := h) rfl ?_
              refine mX_to 3 (k' := 146) (ls' := [some (.ref l0), some (.int l1), some (.int l2), some (.int l3), some (.int l4), some (.int (l5 + (-2))), some (.int l6), some (.int l7), some (.int v4), some (.int v5)]) (st' := [.ref l0, .int v4, .int l6, .ref (gR h l0 22)]) (h' := h) rfl ?_
              refine mX_ck (k' := 147) (ls' := [some (.ref l0), some (.int l1), some (.int l2), some (.int l3), some (.int l4), some (.int (l5 + (-2))), some (.int l6), some (.int l7), some (.int v4), some (.int v5)]) (st' := [.ref (gR h l0 21), .int v4, .int l6, .ref (gR h l0 22)]) (h' := h) rfl ?_
              refine mX_to 1 (k' := 148) (ls' := [some (.ref l0), some (.int l1), some (.int l2), some (.int l3), some (.int l4), some (.int (l5 + (-2))), some (.int l6), some (.int l7), some (.int v4), some (.int v5)]) (st' := [.int (l5 + (-2)), .ref (gR h l0 21), .int v4, .int l6, .ref (gR h l0 22)]) (h' := h) rfl ?_
              refine mX_ck (k' := 149) (ls' := [some (.ref l0), some (.int l1), some (.int l2), some (.int l3), some (.int l4), some (.int (l5 + (-2))), some (.int l6), some (.int l7), some (.int v4), some (.int v5)]) (st' := [.long (gL h (gR h l0 21) (ix (l5 + (-2)))), .int v4, .int l6, .ref (gR h l0 22)]) (h' := h) rfl ?_
              refine mX_to 1 (k' := 150) (ls' := [some (.ref l0), some (.int l1), some (.int l2), some (.int l3), some (.int l4), some (.int (l5 + (-2))), some (.int l6), some (.int l7), some (.int v4), some (.int v5)]) (st' := [.ref l0, .long (gL h (gR h l0 21) (ix (l5 + (-2)))), .int v4, .int l6, .ref (gR h l0 22)]) (h' := h) rfl ?_
              refine mX_ck (k' := 151) (ls' := [some (.ref l0), some (.int l1), some (.int l2), some (.int l3), some (.int l4), some (.int (l5 + (-2))), some (.int l6), some (.int l7), some (.int v4), some (.int v5)]) (st' := [.ref (gR h l0 21), .long (gL h (gR h l0 21) (ix (l5 + (-2)))), .int v4, .int l6, .ref (gR h l0 22)]) (h' := h) rfl ?_
              refine mX_to 3 (k' := 154) (ls' := [some (.ref l0), some (.int l1), some (.int l2), some (.int l3), some (.int l4), some (.int (l5 + (-2))), some (.int l6), some (.int l7), some (.int v4), some (.int v5)]) (st' := [.int ((l5 + (-2)) + 1), .ref (gR h l0 21), .long (gL h (gR h l0 21) (ix (l5 + (-2)))), .int v4, .int l6, .ref (gR h l0 22)]) (h' := h) rfl ?_
              refine mX_ck (k' := 155) (ls' := [some (.ref l0), some (.int l1), some (.int l2), some (.int l3), some (.int l4), some (.int (l5 + (-2))), some (.int l6), some (.int l7), some (.int v4), some (.int v5)]) (st' := [.long (gL h (gR h l0 21) (ix ((l5 + (-2)) + 1))), .long (gL h (gR h l0 21) (ix (l5 + (-2)))), .int v4, .int l6, .ref (gR h l0 22)]) (h' := h) rfl ?_
              refine mX_cI (o := mE mtab d 167 [.int v4, .long (gL h (gR h l0 21) (ix (l5 + (-2)))), .long (gL h (gR h l0 21) (ix ((l5 + (-2)) + 1)))] h) (k' := 156) (ls' := [some (.ref l0), some (.int l1), some (.int l2), some (.int l3), some (.int l4), some (.int (l5 + (-2))), some (.int l6), some (.int l7), some (.int v4), some (.int v5)]) (st' := [.int l6, .ref (gR h l0 22)]) rfl ?_
              intro x18 h17
              refine mX_ck (k' := 157) (ls' := [some (.ref l0), some (.int l1), some (.int l2), some (.int l3), some (.int l4), some (.int (l5 + (-2))), some (.int l6), some (.int l7), some (.int v4), some (.int v5)]) (st' := []) (h' := (sI h17 (gR h l0 22) (ix l6) x18)) rfl ?_
              refine lt_gen (X := fun h19 : MH => mX (mE mtab d) KX11_summedUp 157 [some (.ref l0), some (.int l1), some (.int l2), some (.int l3), some (.int l4), some (.int (l5 + (-2))), some (.int l6), some (.int l7), some (.int v4), some (.int v5)] [] h19) fun h19 => ?_
              refine mX_to 2 (k' := 198) (ls' := [some (.ref l0), some (.int l1), some (.int l2), some (.int l3), some (.int l4), some (.int (l5 + (-2))), some (.int (l6 + 1)), some (.int l7), some (.int v4), some (.int v5)]) (st' := []) (h' := h19) rfl ?_
              rfl
            · refine mX_to 2 (k' := 161) (ls' := [some (.ref l0), some (.int l1), some (.int l2), some (.int l3), some (.int l4), some (.int l5), some (.int l6), some (.int l7), some (.int v4), some (.int v5)]) (st' := [.int 20, .int v4]) (h' := h) rfl ?_
              refine mX_br (t := 162) (f := 179) (ls' := [some (.ref l0), some (.int l1), some (.int l2), some (.int l3), some (.int l4), some (.int l5), some (.int l6), some (.int l7), some (.int v4), some (.int v5)]) (st' := []) (h' := h) rfl ?_ ?_
              · refine mX_to 1 (k' := 163) (ls' := [some (.ref l0), some (.int l1), some (.int l2), some (.int l3), some (.int l4), some (.int l5), some (.int l6), some (.int l7), some (.int v4), some (.int v5)]) (st' := [.ref l0]) (h' := h) rfl ?_
                refine mX_ck (k' := 164) (ls' := [some (.ref l0), some (.int l1), some (.int l2), some (.int l3), some (.int l4), some (.int l5), some (.int l6), some (.int l7), some (.int v4), some (.int v5)]) (st' := [.ref (gR h l0 22)]) (h' := h) rfl ?_
                refine mX_to 4 (k' := 168) (ls' := [some (.ref l0), some (.int l1), some (.int l2), some (.int l3), some (.int l4), some (.int l5), some (.int l6), some (.int l7), some (.int v4), some (.int v5)]) (st' := [.ref l0, .int (l6 - 1), .ref (gR h l0 22)]) (h' := h) rfl ?_
                refine mX_ck (k' := 169) (ls' := [some (.ref l0), some (.int l1), some (.int l2), some (.int l3), some (.int l4), some (.int l5), some (.int l6), some (.int l7), some (.int v4), some (.int v5)]) (st' := [.ref (gR h l0 22), .int (l6 - 1), .ref (gR h l0 22)]) (h' := h) rfl ?_
                refine mX_to 3 (k' := 172) (ls' := [some (.ref l0), some (.int l1), some (.int l2), some (.int l3), some (.int l4), some (.int l5), some (.int l6), some (.int l7), some (.int v4), some (.int v5)]) (st' := [.int (l6 - 1), .ref (gR h l0 22), .int (l6 - 1), .ref (gR h l0 22)]) (h' := h) rfl ?_
                refine mX_ck (k' := 173) (ls' := [some (.ref l0), some (.int l1), some (.int l2), some (.int l3), some (.int l4), some (.int l5), some (.int l6), some (.int l7), some (.int v4), some (.int v5)]) (st' := [.int (gI h (gR h l0 22) (ix (l6 - 1))), .int (l6 - 1), .ref (gR h l0 22)]) (h' := h) rfl ?_
                refine mX_br (t := 174) (f := 176) (ls' := [some (.ref l0), some (.int l1), some (.int l2), some (.int l3), some (.int l4), some (.int l5), some (.int l6), some (.int l7), some (.int v4), some (.int v5)]) (st' := [.int (l6 - 1), .ref (gR h l0 22)]) (h' := h) rfl ?_ ?_
                · refine mX_to 2 (k' := 177) (ls' := [some (.ref l0), some (.int l1), some (.int l2), some (.int l3), some (.int l4), some (.int l5), some (.int l6), some (.int l7), some (.int v4), some (.int v5)]) (st' := [.int 1, .int (l6 - 1), .ref (gR h l0 22)]) (h' := h) rfl ?_
                  rfl
                · refine mX_to 1 (k' := 177) (ls' := [some (.ref l0), some (.int l1), some (.int l2), some (.int l3), some (.int l4), some (.int l5), some (.int l6), some (.int l7), some (.int v4), some (.int v5)]) (st' := [.int 0, .int (l6 - 1), .ref (gR h l0 22)]) (h' := h) rfl ?_
                  rfl
              · refine mX_to 2 (k' := 181) (ls' := [some (.ref l0), some (.int l1), some (.int l2), some (.int l3), some (.int l4), some (.int l5), some (.int (l6 + (-1))), some (.int l7), some (.int v4), some (.int v5)]) (st' := [.ref l0]) (h' := h) rfl ?_
                refine mX_ck (k' := 182) (ls' := [some (.ref l0), some (.int l1), some (.int l2), some (.int l3), some (.int l4), some (.int l5), some (.int (l6 + (-1))), some (.int l7), some (.int v4), some (.int v5)]) (st' := [.ref (gR h l0 22)]) (h' := h) rfl ?_
                refine mX_to 5 (k' := 187) (ls' := [some (.ref l0), some (.int l1), some (.int l2), some (.int l3), some (.int l4), some (.int l5), some (.int (l6 + (-1))), some (.int l7), some (.int v4), some (.int v5)]) (st' := [.ref l0, .int v4, .int ((l6 + (-1)) - 1), .ref (gR h l0 22)]) (h' := h) rfl ?_
                refine mX_ck (k' := 188) (ls' := [some (.ref l0), some (.int l1), some (.int l2), some (.int l3), some (.int l4), some (.int l5), some (.int (l6 + (-1))), some (.int l7), some (.int v4), some (.int v5)]) (st' := [.ref (gR h l0 22), .int v4, .int ((l6 + (-1)) - 1), .ref (gR h l0 22)]) (h' := h) rfl ?_
                refine mX_to 3 (k' := 191) (ls' := [some (.ref l0), some (.int l1), some (.int l2), some (.int l3), some (.int l4), some (.int l5), some (.int (l6 + (-1))), some (.int l7), some (.int v4), some (.int v5)]) (st' := [.int ((l6 + (-1)) - 1), .ref (gR h l0 22), .int v4, .int ((l6 + (-1)) - 1), .ref (gR h l0 22)]) (h' := h) rfl ?_
                refine mX_ck (k' := 192) (ls' := [some (.ref l0), some (.int l1), some (.int l2), some (.int l3), some (.int l4), some (.int l5), some (.int (l6 + (-1))), some (.int l7), some (.int v4), some (.int v5)]) (st' := [.int (gI h (gR h l0 22) (ix ((l6 + (-1)) - 1))), .int v4, .int ((l6 + (-1)) - 1), .ref (gR h l0 22)]) (h' := h) rfl ?_
                refine mX_to 1 (k' := 193) (ls' := [some (.ref l0), some (.int l1), some (.int l2), some (.int l3), some (.int l4), some (.int l5), some (.int (l6 + (-1))), some (.int l7), some (.int v4), some (.int v5)]) (st' := [.ref l0, .int (gI h (gR h l0 22) (ix ((l6 + (-1)) - 1))), .int v4, .int ((l6 + (-1)) - 1), .ref (gR h l0 22)]) (h' := h) rfl ?_
                refine mX_ck (k' := 194) (ls' := [some (.ref l0), some (.int l1), some (.int l2), some (.int l3), some (.int l4), some (.int l5), some (.int (l6 + (-1))), some (.int l7), some (.int v4), some (.int v5)]) (st' := [.ref (gR h l0 22), .int (gI h (gR h l0 22) (ix ((l6 + (-1)) - 1))), .int v4, .int ((l6 + (-1)) - 1), .ref (gR h l0 22)]) (h' := h) rfl ?_
                refine mX_to 1 (k' := 195) (ls' := [some (.ref l0), some (.int l1), some (.int l2), some (.int l3), some (.int l4), some (.int l5), some (.int (l6 + (-1))), some (.int l7), some (.int v4), some (.int v5)]) (st' := [.int (l6 + (-1)), .ref (gR h l0 22), .int (gI h (gR h l0 22) (ix ((l6 + (-1)) - 1))), .int v4, .int ((l6 + (-1)) - 1), .ref (gR h l0 22)]) (h' := h) rfl ?_
                refine mX_ck (k' := 196) (ls' := [some (.ref l0), some (.int l1), some (.int l2), some (.int l3), some (.int l4), some (.int l5), some (.int (l6 + (-1))), some (.int l7), some (.int v4), some (.int v5)]) (st' := [.int (gI h (gR h l0 22) (ix (l6 + (-1)))), .int (gI h (gR h l0 22) (ix ((l6 + (-1)) - 1))), .int v4, .int ((l6 + (-1)) - 1), .ref (gR h l0 22)]) (h' := h) rfl ?_
                refine mX_cI (o := mE mtab d 168 [.int v4, .int (gI h (gR h l0 22) (ix ((l6 + (-1)) - 1))), .int (gI h (gR h l0 22) (ix (l6 + (-1))))] h) (k' := 197) (ls' := [some (.ref l0), some (.int l1), some (.int l2), some (.int l3), some (.int l4), some (.int l5), some (.int (l6 + (-1))), some (.int l7), some (.int v4), some (.int v5)]) (st' := [.int ((l6 + (-1)) - 1), .ref (gR h l0 22)]) rfl ?_
                intro x23 h22
                refine mX_ck (k' := 198) (ls' := [some (.ref l0), some (.int l1), some (.int l2), some (.int l3), some (.int l4), some (.int l5), some (.int (l6 + (-1))), some (.int l7), some (.int v4), some (.int v5)]) (st' := []) (h' := (sI h22 (gR h l0 22) (ix ((l6 + (-1)) - 1)) x23)) rfl ?_
                refine lt_gen (X := fun h24 : MH => mX (mE mtab d) KX11_summedUp 198 [some (.ref l0), some (.int l1), some (.int l2), some (.int l3), some (.int l4), some (.int l5), some (.int (l6 + (-1))), some (.int l7), some (.int v4), some (.int v5)] [] h24) fun h24 => ?_
                rfl
  · refine mX_to 1 (k' := 201) (ls' := [some (.ref l0), some (.int l1), some (.int l2), some (.int l3), some (.int l4), some (.int l5), some (.int l6), some (.int l7), o8, o9]) (st' := [.ref l0]) (h' := h) rfl ?_
    refine mX_ck (k' := 202) (ls' := [some (.ref l0), some (.int l1), some (.int l2), some (.int l3), some (.int l4), some (.int l5), some (.int l6), some (.int l7), o8, o9]) (st' := [.ref (gR h l0 21)]) (h' := h) rfl ?_
    refine mX_to 1 (k' := 203) (ls' := [some (.ref l0), some (.int l1), some (.int l2), some (.int l3), some (.int l4), some (.int l5), some (.int l6), some (.int l7), o8, o9]) (st' := [.int 0, .ref (gR h l0 21)]) (h' := h) rfl ?_
    refine mX_ck (k' := 204) (ls' := [some (.ref l0), some (.int l1), some (.int l2), some (.int l3), some (.int l4), some (.int l5), some (.int l6), some (.int l7), o8, o9]) (st' := [.long (gL h (gR h l0 21) (ix (0 : Int32)))]) (h' := h) rfl ?_
    exact mX_ret rfl
theorem D_X11_summedUp_71 (d : Nat) (h : MH) (l0 : Nat) (l1 : Int32) (l2 : Int32) (l3 : Int32) (l4 : Int32) (l5 : Int32) (l6 : Int32) (l7 : Int32) (l8 : Int32) (l9 : Int32) (s0 : Int64) (s1 : Int32) (s2 : Nat) : mX (mE mtab d) KX11_summedUp 71 [some (.ref l0), some (.int l1), some (.int l2), some (.int l3), some (.int l4), some (.int l5), some (.int l6), some (.int l7), some (.int l8), some (.int l9)] [.long s0, .int s1, .ref s2] h = ck (kd h s2 = 21 ∧ ib s1 (ln h s2)) (lt_ (sL h s2 (ix s1) s0) fun h25 => mX (mE mtab d) KX11_summedUp 198 [some (.ref l0), some (.int l1), some (.int l2), some (.int l3), some (.int l4), some (.int (l5 + 1)), some (.int l6), some (.int l7), some (.int l8), some (.int l9)] [] h25) := by
  refine mX_ck (k' := 72) (ls' := [some (.ref l0), some (.int l1), some (.int l2), some (.int l3), some (.int l4), some (.int l5), some (.int l6), some (.int l7), some (.int l8), some (.int l9)]) (st' := []) (h' := (sL h s2 (ix s1) s0)) rfl ?_
  refine lt_gen (X := fun h25 : MH => mX (mE mtab d) KX11_summedUp 72 [some (.ref l0), some (.int l1), some (.int l2), some (.int l3), some (.int l4), some (.int l5), some (.int l6), some (.int l7), some (.int l8), some (.int l9)] [] h25) fun h25 => ?_
  refine mX_to 2 (k' := 198) (ls' := [some (.ref l0), some (.int l1), some (.int l2), some (.int l3), some (.int l4), some (.int (l5 + 1)), some (.int l6), some (.int l7), some (.int l8), some (.int l9)]) (st' := []) (h' := h25) rfl ?_
  rfl
theorem D_X11_summedUp_198 (d : Nat) (h : MH) (l0 : Nat) (l1 : Int32) (l2 : Int32) (l3 : Int32) (l4 : Int32) (l5 : Int32) (l6 : Int32) (l7 : Int32) (l8 : Int32) (l9 : Int32) : mX (mE mtab d) KX11_summedUp 198 [some (.ref l0), some (.int l1), some (.int l2), some (.int l3), some (.int l4), some (.int l5), some (.int l6), some (.int l7), some (.int l8), some (.int l9)] [] h = mX (mE mtab d) KX11_summedUp 27 [some (.ref l0), some (.int l1), some (.int l2), some (.int l3), some (.int l4), some (.int l5), some (.int l6), some (.int (l7 + 1)), some (.int l8), some (.int l9)] [] h := by
  refine mX_to 2 (k' := 27) (ls' := [some (.ref l0), some (.int l1), some (.int l2), some (.int l3), some (.int l4), some (.int l5), some (.int l6), some (.int (l7 + 1)), some (.int l8), some (.int l9)]) (st' := []) (h' := h) rfl ?_
  rfl
theorem D_X11_summedUp_177 (d : Nat) (h : MH) (l0 : Nat) (l1 : Int32) (l2 : Int32) (l3 : Int32) (l4 : Int32) (l5 : Int32) (l6 : Int32) (l7 : Int32) (l8 : Int32) (l9 : Int32) (s0 : Int32) (s1 : Int32) (s2 : Nat) : mX (mE mtab d) KX11_summedUp 177 [some (.ref l0), some (.int l1), some (.int l2), some (.int l3), some (.int l4), some (.int l5), some (.int l6), some (.int l7), some (.int l8), some (.int l9)] [.int s0, .int s1, .ref s2] h = ck (kd h s2 = 22 ∧ ib s1 (ln h s2) ∧ (s0 = 0 ∨ s0 = 1)) (lt_ (sI h s2 (ix s1) s0) fun h28 => mX (mE mtab d) KX11_summedUp 198 [some (.ref l0), some (.int l1), some (.int l2), some (.int l3), some (.int l4), some (.int l5), some (.int l6), some (.int l7), some (.int l8), some (.int l9)] [] h28) := by
  refine mX_ck (k' := 178) (ls' := [some (.ref l0), some (.int l1), some (.int l2), some (.int l3), some (.int l4), some (.int l5), some (.int l6), some (.int l7), some (.int l8), some (.int l9)]) (st' := []) (h' := (sI h s2 (ix s1) s0)) rfl ?_
  refine lt_gen (X := fun h28 : MH => mX (mE mtab d) KX11_summedUp 178 [some (.ref l0), some (.int l1), some (.int l2), some (.int l3), some (.int l4), some (.int l5), some (.int l6), some (.int l7), some (.int l8), some (.int l9)] [] h28) fun h28 => ?_
  refine mX_to 1 (k' := 198) (ls' := [some (.ref l0), some (.int l1), some (.int l2), some (.int l3), some (.int l4), some (.int l5), some (.int l6), some (.int l7), some (.int l8), some (.int l9)]) (st' := []) (h' := h28) rfl ?_
  rfl
theorem D_X11_summedUp (d : Nat) (h : MH) (a0 : Nat) (a1 : Int32) (a2 : Int32) : mE mtab (d + 1) 169 [.ref a0, .int a1, .int a2] h = lt_ (((681 * a1) + 1) + (3 * a2)) fun v1 => lt_ ((681 * a1) + 73) fun v2 => ck (kd h a0 = 12) (ck ((kd h (gR h a0 2) = 20 ∨ kd h (gR h a0 2) = 24) ∧ ib (v1 + 1) (ln h (gR h a0 2))) (lt_ (gI h (gR h a0 2) (ix (v1 + 1))) fun v3 => mX (mE mtab d) KX11_summedUp 27 [some (.ref a0), some (.int a1), some (.int a2), some (.int v1), some (.int v2), some (.int 0), some (.int 0), some (.int v3), none, none] [] h)) := by
  refine mE_eq (q := (yX11_summedUp, cX11_summedUp, 10, (some .long), KX11_summedUp)) (C := KX11_summedUp) (ls := [some (.ref a0), some (.int a1), some (.int a2), none, none, none, none, none, none, none]) rfl rfl rfl rfl ?_
  refine mX_to 9 (k' := 9) (ls' := [some (.ref a0), some (.int a1), some (.int a2), none, none, none, none, none, none, none]) (st' := [.int (((681 * a1) + 1) + (3 * a2))]) (h' := h) rfl ?_
  refine lt_gen (X := fun v1 : Int32 => mX (mE mtab d) KX11_summedUp 9 [some (.ref a0), some (.int a1), some (.int a2), none, none, none, none, none, none, none] [.int v1] h) fun v1 => ?_
  refine mX_to 6 (k' := 15) (ls' := [some (.ref a0), some (.int a1), some (.int a2), some (.int v1), none, none, none, none, none, none]) (st' := [.int ((681 * a1) + 73)]) (h' := h) rfl ?_
  refine lt_gen (X := fun v2 : Int32 => mX (mE mtab d) KX11_summedUp 15 [some (.ref a0), some (.int a1), some (.int a2), some (.int v1), none, none, none, none, none, none] [.int v2] h) fun v2 => ?_
  refine mX_to 6 (k' := 21) (ls' := [some (.ref a0), some (.int a1), some (.int a2), some (.int v1), some (.int v2), some (.int 0), some (.int 0), none, none, none]) (st' := [.ref a0]) (h' := h) rfl ?_
  refine mX_ck (k' := 22) (ls' := [some (.ref a0), some (.int a1), some (.int a2), some (.int v1), some (.int v2), some (.int 0), some (.int 0), none, none, none]) (st' := [.ref (gR h a0 2)]) (h' := h) rfl ?_
  refine mX_to 3 (k' := 25) (ls' := [some (.ref a0), some (.int a1), some (.int a2), some (.int v1), some (.int v2), some (.int 0), some (.int 0), none, none, none]) (st' := [.int (v1 + 1), .ref (gR h a0 2)]) (h' := h) rfl ?_
  refine mX_ck (k' := 26) (ls' := [some (.ref a0), some (.int a1), some (.int a2), some (.int v1), some (.int v2), some (.int 0), some (.int 0), none, none, none]) (st' := [.int (gI h (gR h a0 2) (ix (v1 + 1)))]) (h' := h) rfl ?_
  refine lt_gen (X := fun v3 : Int32 => mX (mE mtab d) KX11_summedUp 26 [some (.ref a0), some (.int a1), some (.int a2), some (.int v1), some (.int v2), some (.int 0), some (.int 0), none, none, none] [.int v3] h) fun v3 => ?_
  refine mX_to 1 (k' := 27) (ls' := [some (.ref a0), some (.int a1), some (.int a2), some (.int v1), some (.int v2), some (.int 0), some (.int 0), some (.int v3), none, none]) (st' := []) (h' := h) rfl ?_
  rfl
theorem D_X11_cut (d : Nat) (h : MH) (a0 : Int64) (a1 : Int32) (a2 : Int32) : mE mtab (d + 1) 170 [.long a0, .int a1, .int a2] h = (if (lg_cmp a0 ((a1 : Int32).toInt64)) < 0 then some (.int a1, h) else (if (lg_cmp a0 ((a2 : Int32).toInt64)) ≤ 0 then some (.int ((a0 : Int64).toInt32), h) else some (.int a2, h))) := by
  refine mE_eq (q := (yX11_cut, cX11_cut, 4, (some .int), KX11_cut)) (C := KX11_cut) (ls := [some (.long a0), none, some (.int a1), some (.int a2)]) rfl rfl rfl rfl ?_
  refine mX_to 4 (k' := 4) (ls' := [some (.long a0), none, some (.int a1), some (.int a2)]) (st' := [.int (lg_cmp a0 ((a1 : Int32).toInt64))]) (h' := h) rfl ?_
  refine mX_br (t := 5) (f := 7) (ls' := [some (.long a0), none, some (.int a1), some (.int a2)]) (st' := []) (h' := h) rfl ?_ ?_
  · refine mX_to 2 (k' := 16) (ls' := [some (.long a0), none, some (.int a1), some (.int a2)]) (st' := [.int a1]) (h' := h) rfl ?_
    exact mX_reti rfl
  · refine mX_to 4 (k' := 11) (ls' := [some (.long a0), none, some (.int a1), some (.int a2)]) (st' := [.int (lg_cmp a0 ((a2 : Int32).toInt64))]) (h' := h) rfl ?_
    refine mX_br (t := 14) (f := 12) (ls' := [some (.long a0), none, some (.int a1), some (.int a2)]) (st' := []) (h' := h) rfl ?_ ?_
    · refine mX_to 2 (k' := 16) (ls' := [some (.long a0), none, some (.int a1), some (.int a2)]) (st' := [.int ((a0 : Int64).toInt32)]) (h' := h) rfl ?_
      exact mX_reti rfl
    · refine mX_to 2 (k' := 16) (ls' := [some (.long a0), none, some (.int a1), some (.int a2)]) (st' := [.int a2]) (h' := h) rfl ?_
      exact mX_reti rfl
theorem D_X11_says_2 (d : Nat) (h : MH) (l0 : Nat) (l1 : Int32) (l2 : Int32) (l3 : Int32) (l4 : Int32) (l5 : Int32) : mX (mE mtab d) KX11_says 2 [some (.ref l0), some (.int l1), some (.int l2), some (.int l3), some (.int l4), some (.int l5)] [] h = (if l1 < 0 then some (.int l3, h) else ck (kd h l0 = 12) (ck ((kd h (gR h l0 2) = 20 ∨ kd h (gR h l0 2) = 24) ∧ ib (681 * l1) (ln h (gR h l0 2))) ((if l5 < (gI h (gR h l0 2) (ix (681 * l1))) then ck (kd h l0 = 12) (ck ((kd h (gR h l0 2) = 20 ∨ kd h (gR h l0 2) = 24) ∧ ib (((681 * l1) + 1) + (3 * l5)) (ln h (gR h l0 2))) ((if (gI h (gR h l0 2) (ix (((681 * l1) + 1) + (3 * l5)))) = l2 then ck (kd h l0 = 12) (cL (mE mtab d 169 [.ref l0, .int l1, .int l5] h) (fun x2 h1 => cI (mE mtab d 170 [.long x2, .int 0, .int l4] h1) (fun x4 h3 => some (.int x4, h3)))) else mX (mE mtab d) KX11_says 2 [some (.ref l0), some (.int l1), some (.int l2), some (.int l3), some (.int l4), some (.int (l5 + 1))] [] h))) else some (.int l3, h))))) := by
  refine mX_to 1 (k' := 3) (ls' := [some (.ref l0), some (.int l1), some (.int l2), some (.int l3), some (.int l4), some (.int l5)]) (st' := [.int l1]) (h' := h) rfl ?_
  refine mX_br (t := 36) (f := 4) (ls' := [some (.ref l0), some (.int l1), some (.int l2), some (.int l3), some (.int l4), some (.int l5)]) (st' := []) (h' := h) rfl ?_ ?_
  · refine mX_to 1 (k' := 37) (ls' := [some (.ref l0), some (.int l1), some (.int l2), some (.int l3), some (.int l4), some (.int l5)]) (st' := [.int l3]) (h' := h) rfl ?_
    exact mX_reti rfl
  · refine mX_to 2 (k' := 6) (ls' := [some (.ref l0), some (.int l1), some (.int l2), some (.int l3), some (.int l4), some (.int l5)]) (st' := [.ref l0, .int l5]) (h' := h) rfl ?_
    refine mX_ck (k' := 7) (ls' := [some (.ref l0), some (.int l1), some (.int l2), some (.int l3), some (.int l4), some (.int l5)]) (st' := [.ref (gR h l0 2), .int l5]) (h' := h) rfl ?_
    refine mX_to 3 (k' := 10) (ls' := [some (.ref l0), some (.int l1), some (.int l2), some (.int l3), some (.int l4), some (.int l5)]) (st' := [.int (681 * l1), .ref (gR h l0 2), .int l5]) (h' := h) rfl ?_
    refine mX_ck (k' := 11) (ls' := [some (.ref l0), some (.int l1), some (.int l2), some (.int l3), some (.int l4), some (.int l5)]) (st' := [.int (gI h (gR h l0 2) (ix (681 * l1))), .int l5]) (h' := h) rfl ?_
    refine mX_br (t := 12) (f := 36) (ls' := [some (.ref l0), some (.int l1), some (.int l2), some (.int l3), some (.int l4), some (.int l5)]) (st' := []) (h' := h) rfl ?_ ?_
    · refine mX_to 1 (k' := 13) (ls' := [some (.ref l0), some (.int l1), some (.int l2), some (.int l3), some (.int l4), some (.int l5)]) (st' := [.ref l0]) (h' := h) rfl ?_
      refine mX_ck (k' := 14) (ls' := [some (.ref l0), some (.int l1), some (.int l2), some (.int l3), some (.int l4), some (.int l5)]) (st' := [.ref (gR h l0 2)]) (h' := h) rfl ?_
      refine mX_to 9 (k' := 23) (ls' := [some (.ref l0), some (.int l1), some (.int l2), some (.int l3), some (.int l4), some (.int l5)]) (st' := [.int (((681 * l1) + 1) + (3 * l5)), .ref (gR h l0 2)]) (h' := h) rfl ?_
      refine mX_ck (k' := 24) (ls' := [some (.ref l0), some (.int l1), some (.int l2), some (.int l3), some (.int l4), some (.int l5)]) (st' := [.int (gI h (gR h l0 2) (ix (((681 * l1) + 1) + (3 * l5))))]) (h' := h) rfl ?_
      refine mX_to 1 (k' := 25) (ls' := [some (.ref l0), some (.int l1), some (.int l2), some (.int l3), some (.int l4), some (.int l5)]) (st' := [.int l2, .int (gI h (gR h l0 2) (ix (((681 * l1) + 1) + (3 * l5))))]) (h' := h) rfl ?_
      refine mX_br (t := 26) (f := 34) (ls' := [some (.ref l0), some (.int l1), some (.int l2), some (.int l3), some (.int l4), some (.int l5)]) (st' := []) (h' := h) rfl ?_ ?_
      · refine mX_to 3 (k' := 29) (ls' := [some (.ref l0), some (.int l1), some (.int l2), some (.int l3), some (.int l4), some (.int l5)]) (st' := [.int l5, .int l1, .ref l0]) (h' := h) rfl ?_
        refine mX_ckc (m := mcl (mE mtab d 169 [.ref l0, .int l1, .int l5] h) 2 30 [some (.ref l0), some (.int l1), some (.int l2), some (.int l3), some (.int l4), some (.int l5)] []) rfl ?_
        refine mk_cL ?_
        intro x2 h1
        refine mX_to 2 (k' := 32) (ls' := [some (.ref l0), some (.int l1), some (.int l2), some (.int l3), some (.int l4), some (.int l5)]) (st' := [.int l4, .int 0, .long x2]) (h' := h1) rfl ?_
        refine mX_cI (o := mE mtab d 170 [.long x2, .int 0, .int l4] h1) (k' := 33) (ls' := [some (.ref l0), some (.int l1), some (.int l2), some (.int l3), some (.int l4), some (.int l5)]) (st' := []) rfl ?_
        intro x4 h3
        exact mX_reti rfl
      · refine mX_to 2 (k' := 2) (ls' := [some (.ref l0), some (.int l1), some (.int l2), some (.int l3), some (.int l4), some (.int (l5 + 1))]) (st' := []) (h' := h) rfl ?_
        rfl
    · refine mX_to 1 (k' := 37) (ls' := [some (.ref l0), some (.int l1), some (.int l2), some (.int l3), some (.int l4), some (.int l5)]) (st' := [.int l3]) (h' := h) rfl ?_
      exact mX_reti rfl
theorem D_X11_says (d : Nat) (h : MH) (a0 : Nat) (a1 : Int32) (a2 : Int32) (a3 : Int32) (a4 : Int32) : mE mtab (d + 1) 171 [.ref a0, .int a1, .int a2, .int a3, .int a4] h = mX (mE mtab d) KX11_says 2 [some (.ref a0), some (.int a1), some (.int a2), some (.int a3), some (.int a4), some (.int 0)] [] h := by
  refine mE_eq (q := (yX11_says, cX11_says, 6, (some .int), KX11_says)) (C := KX11_says) (ls := [some (.ref a0), some (.int a1), some (.int a2), some (.int a3), some (.int a4), none]) rfl rfl rfl rfl ?_
  refine mX_to 2 (k' := 2) (ls' := [some (.ref a0), some (.int a1), some (.int a2), some (.int a3), some (.int a4), some (.int 0)]) (st' := []) (h' := h) rfl ?_
  rfl
