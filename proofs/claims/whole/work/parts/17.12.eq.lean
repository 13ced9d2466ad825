/-! EQUATIONS OF THE METHODS (written by wip/gen/dgen.py) -/
theorem D_X9_slidesBy (d : Nat) (h : MH) (a0 : Nat) (a1 : Nat) (a2 : Int32) : mE mtab (d + 1) 188 [.ref a0, .ref a1, .int a2] h = (if a1 = 0 then some (.int 1, h) else ck (kd h a1 = 9) ((if (gR h a1 1) = 0 then some (.int 1, h) else ck (kd h a1 = 9) (ck (kd h (gR h a1 1) = 4) (cI (mE mtab d 144 [.ref (gR h a1 1), .ref a0, .int a2] h) (fun x2 h1 => some (.int (jmin (jmax x2 0) 3), h1))))))) := by
  refine mE_eq (q := (yX9_slidesBy, cX9_slidesBy, 3, (some .int), KX9_slidesBy)) (C := KX9_slidesBy) (ls := [some (.ref a0), some (.ref a1), some (.int a2)]) rfl rfl rfl rfl ?_
  refine mX_to 1 (k' := 1) (ls' := [some (.ref a0), some (.ref a1), some (.int a2)]) (st' := [.ref a1]) (h' := h) rfl ?_
  refine mX_br (t := 5) (f := 2) (ls' := [some (.ref a0), some (.ref a1), some (.int a2)]) (st' := []) (h' := h) rfl ?_ ?_
  · refine mX_to 1 (k' := 6) (ls' := [some (.ref a0), some (.ref a1), some (.int a2)]) (st' := [.int 1]) (h' := h) rfl ?_
    exact mX_reti rfl
  · refine mX_to 1 (k' := 3) (ls' := [some (.ref a0), some (.ref a1), some (.int a2)]) (st' := [.ref a1]) (h' := h) rfl ?_
    refine mX_ck (k' := 4) (ls' := [some (.ref a0), some (.ref a1), some (.int a2)]) (st' := [.ref (gR h a1 1)]) (h' := h) rfl ?_
    refine mX_br (t := 5) (f := 7) (ls' := [some (.ref a0), some (.ref a1), some (.int a2)]) (st' := []) (h' := h) rfl ?_ ?_
    · refine mX_to 1 (k' := 6) (ls' := [some (.ref a0), some (.ref a1), some (.int a2)]) (st' := [.int 1]) (h' := h) rfl ?_
      exact mX_reti rfl
    · refine mX_to 1 (k' := 8) (ls' := [some (.ref a0), some (.ref a1), some (.int a2)]) (st' := [.ref a1]) (h' := h) rfl ?_
      refine mX_ck (k' := 9) (ls' := [some (.ref a0), some (.ref a1), some (.int a2)]) (st' := [.ref (gR h a1 1)]) (h' := h) rfl ?_
      refine mX_to 2 (k' := 11) (ls' := [some (.ref a0), some (.ref a1), some (.int a2)]) (st' := [.int a2, .ref a0, .ref (gR h a1 1)]) (h' := h) rfl ?_
      refine mX_ckc (m := mcl (mE mtab d 144 [.ref (gR h a1 1), .ref a0, .int a2] h) 1 12 [some (.ref a0), some (.ref a1), some (.int a2)] []) rfl ?_
      refine mk_cI ?_
      intro x2 h1
      refine mX_to 4 (k' := 16) (ls' := [some (.ref a0), some (.ref a1), some (.int a2)]) (st' := [.int (jmin (jmax x2 0) 3)]) (h' := h1) rfl ?_
      exact mX_reti rfl
theorem D_X9_write_15 (d : Nat) (h : MH) (l0 : Nat) (l1 : Int32) (l2 : Int32) (l3 : Int32) : mX (mE mtab d) KX9_write 15 [some (.ref l0), some (.int l1), some (.int l2), some (.int l3)] [] h = ck (kd h l0 = 10) (ck (kd h l0 = 10) (ck (kd h l0 = 10) (ck (kd h (gR h l0 7) = 20 ∧ ib (gI h l0 8) (ln h (gR h l0 7))) (lt_ (sI h (gR h l0 7) (ix (gI h l0 8)) (((((((gI h l0 5) * 4) + l1) * 9) + l2) * 9) + l3)) fun h3 => ck (kd h3 l0 = 10) (ck (kd h3 l0 = 10) (lt_ (sI h3 l0 8 ((gI h3 l0 8) + 1)) fun h4 => some (.int 0, h4))))))) := by
  refine mX_to 1 (k' := 16) (ls' := [some (.ref l0), some (.int l1), some (.int l2), some (.int l3)]) (st' := [.ref l0]) (h' := h) rfl ?_
  refine mX_ck (k' := 17) (ls' := [some (.ref l0), some (.int l1), some (.int l2), some (.int l3)]) (st' := [.ref (gR h l0 7)]) (h' := h) rfl ?_
  refine mX_to 1 (k' := 18) (ls' := [some (.ref l0), some (.int l1), some (.int l2), some (.int l3)]) (st' := [.ref l0, .ref (gR h l0 7)]) (h' := h) rfl ?_
  refine mX_ck (k' := 19) (ls' := [some (.ref l0), some (.int l1), some (.int l2), some (.int l3)]) (st' := [.int (gI h l0 8), .ref (gR h l0 7)]) (h' := h) rfl ?_
  refine mX_to 1 (k' := 20) (ls' := [some (.ref l0), some (.int l1), some (.int l2), some (.int l3)]) (st' := [.ref l0, .int (gI h l0 8), .ref (gR h l0 7)]) (h' := h) rfl ?_
  refine mX_ck (k' := 21) (ls' := [some (.ref l0), some (.int l1), some (.int l2), some (.int l3)]) (st' := [.int (gI h l0 5), .int (gI h l0 8), .ref (gR h l0 7)]) (h' := h) rfl ?_
  refine mX_to 12 (k' := 33) (ls' := [some (.ref l0), some (.int l1), some (.int l2), some (.int l3)]) (st' := [.int (((((((gI h l0 5) * 4) + l1) * 9) + l2) * 9) + l3), .int (gI h l0 8), .ref (gR h l0 7)]) (h' := h) rfl ?_
  refine mX_ck (k' := 34) (ls' := [some (.ref l0), some (.int l1), some (.int l2), some (.int l3)]) (st' := []) (h' := (sI h (gR h l0 7) (ix (gI h l0 8)) (((((((gI h l0 5) * 4) + l1) * 9) + l2) * 9) + l3))) rfl ?_
  refine lt_gen (X := fun h3 : MH => mX (mE mtab d) KX9_write 34 [some (.ref l0), some (.int l1), some (.int l2), some (.int l3)] [] h3) fun h3 => ?_
  refine mX_to 2 (k' := 36) (ls' := [some (.ref l0), some (.int l1), some (.int l2), some (.int l3)]) (st' := [.ref l0, .ref l0]) (h' := h3) rfl ?_
  refine mX_ck (k' := 37) (ls' := [some (.ref l0), some (.int l1), some (.int l2), some (.int l3)]) (st' := [.int (gI h3 l0 8), .ref l0]) (h' := h3) rfl ?_
  refine mX_to 2 (k' := 39) (ls' := [some (.ref l0), some (.int l1), some (.int l2), some (.int l3)]) (st' := [.int ((gI h3 l0 8) + 1), .ref l0]) (h' := h3) rfl ?_
  refine mX_ck (k' := 40) (ls' := [some (.ref l0), some (.int l1), some (.int l2), some (.int l3)]) (st' := []) (h' := (sI h3 l0 8 ((gI h3 l0 8) + 1))) rfl ?_
  refine lt_gen (X := fun h4 : MH => mX (mE mtab d) KX9_write 40 [some (.ref l0), some (.int l1), some (.int l2), some (.int l3)] [] h4) fun h4 => ?_
  exact mX_ret rfl
theorem D_X9_write (d : Nat) (h : MH) (a0 : Nat) (a1 : Int32) (a2 : Int32) (a3 : Int32) : mE mtab (d + 1) 189 [.ref a0, .int a1, .int a2, .int a3] h = ck (kd h a0 = 10) ((if (gI h a0 8) < 30 then mX (mE mtab d) KX9_write 15 [some (.ref a0), some (.int a1), some (.int a2), some (.int a3)] [] h else ck (kd h a0 = 10) (ck (kd h a0 = 10) (ck (kd h (gR h a0 7) = 20 ∧ kd h (gR h a0 7) = 20 ∧ ¬ (1 : Int32) < 0 ∧ ¬ (0 : Int32) < 0 ∧ ¬ (29 : Int32) < 0 ∧ ix (1 : Int32) + ix (29 : Int32) ≤ ln h (gR h a0 7) ∧ ix (0 : Int32) + ix (29 : Int32) ≤ ln h (gR h a0 7)) (lt_ (rI h (gR h a0 7) (va_cpy (gI h (gR h a0 7)) (gI h (gR h a0 7)) (ix (1 : Int32)) (ix (0 : Int32)) (ix (29 : Int32)))) fun h1 => ck (kd h1 a0 = 10) (lt_ (sI h1 a0 8 29) fun h2 => mX (mE mtab d) KX9_write 15 [some (.ref a0), some (.int a1), some (.int a2), some (.int a3)] [] h2)))))) := by
  refine mE_eq (q := (yX9_write, cX9_write, 4, none, KX9_write)) (C := KX9_write) (ls := [some (.ref a0), some (.int a1), some (.int a2), some (.int a3)]) rfl rfl rfl rfl ?_
  refine mX_to 1 (k' := 1) (ls' := [some (.ref a0), some (.int a1), some (.int a2), some (.int a3)]) (st' := [.ref a0]) (h' := h) rfl ?_
  refine mX_ck (k' := 2) (ls' := [some (.ref a0), some (.int a1), some (.int a2), some (.int a3)]) (st' := [.int (gI h a0 8)]) (h' := h) rfl ?_
  refine mX_to 1 (k' := 3) (ls' := [some (.ref a0), some (.int a1), some (.int a2), some (.int a3)]) (st' := [.int 30, .int (gI h a0 8)]) (h' := h) rfl ?_
  refine mX_br (t := 15) (f := 4) (ls' := [some (.ref a0), some (.int a1), some (.int a2), some (.int a3)]) (st' := []) (h' := h) rfl ?_ ?_
  · rfl
  · refine mX_to 1 (k' := 5) (ls' := [some (.ref a0), some (.int a1), some (.int a2), some (.int a3)]) (st' := [.ref a0]) (h' := h) rfl ?_
    refine mX_ck (k' := 6) (ls' := [some (.ref a0), some (.int a1), some (.int a2), some (.int a3)]) (st' := [.ref (gR h a0 7)]) (h' := h) rfl ?_
    refine mX_to 2 (k' := 8) (ls' := [some (.ref a0), some (.int a1), some (.int a2), some (.int a3)]) (st' := [.ref a0, .int 1, .ref (gR h a0 7)]) (h' := h) rfl ?_
    refine mX_ck (k' := 9) (ls' := [some (.ref a0), some (.int a1), some (.int a2), some (.int a3)]) (st' := [.ref (gR h a0 7), .int 1, .ref (gR h a0 7)]) (h' := h) rfl ?_
    refine mX_to 2 (k' := 11) (ls' := [some (.ref a0), some (.int a1), some (.int a2), some (.int a3)]) (st' := [.int 29, .int 0, .ref (gR h a0 7), .int 1, .ref (gR h a0 7)]) (h' := h) rfl ?_
    refine mX_ck (k' := 12) (ls' := [some (.ref a0), some (.int a1), some (.int a2), some (.int a3)]) (st' := []) (h' := (rI h (gR h a0 7) (va_cpy (gI h (gR h a0 7)) (gI h (gR h a0 7)) (ix (1 : Int32)) (ix (0 : Int32)) (ix (29 : Int32))))) rfl ?_
    refine lt_gen (X := fun h1 : MH => mX (mE mtab d) KX9_write 12 [some (.ref a0), some (.int a1), some (.int a2), some (.int a3)] [] h1) fun h1 => ?_
    refine mX_to 2 (k' := 14) (ls' := [some (.ref a0), some (.int a1), some (.int a2), some (.int a3)]) (st' := [.int 29, .ref a0]) (h' := h1) rfl ?_
    refine mX_ck (k' := 15) (ls' := [some (.ref a0), some (.int a1), some (.int a2), some (.int a3)]) (st' := []) (h' := (sI h1 a0 8 29)) rfl ?_
    refine lt_gen (X := fun h2 : MH => mX (mE mtab d) KX9_write 15 [some (.ref a0), some (.int a1), some (.int a2), some (.int a3)] [] h2) fun h2 => ?_
    rfl
theorem D_X9_slideAll_2 (d : Nat) (h : MH) (l0 : Nat) (l1 : Int32) (l2 : Int32) (o3 : Option Value) (o4 : Option Value) (o5 : Option Value) : mX (mE mtab d) KX9_slideAll 2 [some (.ref l0), some (.int l1), some (.int l2), o3, o4, o5] [] h = ck (kd h l0 = 10) ((if l2 < (gI h l0 0) then ck (kd h l0 = 10) (ck ((kd h (gR h l0 2) = 20 ∨ kd h (gR h l0 2) = 24) ∧ ib l2 (ln h (gR h l0 2))) (lt_ (gI h (gR h l0 2) (ix l2)) fun v1 => ck (kd h l0 = 10) (ck (kd h l0 = 10) (cI (mE mtab d 188 [.ref l0, .ref (gR h l0 9), .int l2] h) (fun x3 h2 => (if l1 = 0 then mX (mE mtab d) KX9_slideAll 30 [some (.ref l0), some (.int l1), some (.int l2), some (.int v1), some (.int x3), o5] [.int (jmax (v1 - x3) 0)] h2 else mX (mE mtab d) KX9_slideAll 30 [some (.ref l0), some (.int l1), some (.int l2), some (.int v1), some (.int x3), o5] [.int (jmin (v1 + x3) 8)] h2)))))) else some (.int 0, h))) := by
  refine mX_to 2 (k' := 4) (ls' := [some (.ref l0), some (.int l1), some (.int l2), o3, o4, o5]) (st' := [.ref l0, .int l2]) (h' := h) rfl ?_
  refine mX_ck (k' := 5) (ls' := [some (.ref l0), some (.int l1), some (.int l2), o3, o4, o5]) (st' := [.int (gI h l0 0), .int l2]) (h' := h) rfl ?_
  refine mX_br (t := 6) (f := 46) (ls' := [some (.ref l0), some (.int l1), some (.int l2), o3, o4, o5]) (st' := []) (h' := h) rfl ?_ ?_
  · refine mX_to 1 (k' := 7) (ls' := [some (.ref l0), some (.int l1), some (.int l2), o3, o4, o5]) (st' := [.ref l0]) (h' := h) rfl ?_
    refine mX_ck (k' := 8) (ls' := [some (.ref l0), some (.int l1), some (.int l2), o3, o4, o5]) (st' := [.ref (gR h l0 2)]) (h' := h) rfl ?_
    refine mX_to 1 (k' := 9) (ls' := [some (.ref l0), some (.int l1), some (.int l2), o3, o4, o5]) (st' := [.int l2, .ref (gR h l0 2)]) (h' := h) rfl ?_
    refine mX_ck (k' := 10) (ls' := [some (.ref l0), some (.int l1), some (.int l2), o3, o4, o5]) (st' := [.int (gI h (gR h l0 2) (ix l2))]) (h' := h) rfl ?_
    refine lt_gen (X := fun v1 : Int32 => mX (mE mtab d) KX9_slideAll 10 [some (.ref l0), some (.int l1), some (.int l2), o3, o4, o5] [.int v1] h) fun v1 => ?_
    refine mX_to 3 (k' := 13) (ls' := [some (.ref l0), some (.int l1), some (.int l2), some (.int v1), o4, o5]) (st' := [.ref l0, .ref l0]) (h' := h) rfl ?_
    refine mX_ck (k' := 14) (ls' := [some (.ref l0), some (.int l1), some (.int l2), some (.int v1), o4, o5]) (st' := [.ref (gR h l0 9), .ref l0]) (h' := h) rfl ?_
    refine mX_to 1 (k' := 15) (ls' := [some (.ref l0), some (.int l1), some (.int l2), some (.int v1), o4, o5]) (st' := [.int l2, .ref (gR h l0 9), .ref l0]) (h' := h) rfl ?_
    refine mX_ckc (m := mcl (mE mtab d 188 [.ref l0, .ref (gR h l0 9), .int l2] h) 1 16 [some (.ref l0), some (.int l1), some (.int l2), some (.int v1), o4, o5] []) rfl ?_
    refine mk_cI ?_
    intro x3 h2
    refine mX_to 2 (k' := 18) (ls' := [some (.ref l0), some (.int l1), some (.int l2), some (.int v1), some (.int x3), o5]) (st' := [.int l1]) (h' := h2) rfl ?_
    refine mX_br (t := 25) (f := 19) (ls' := [some (.ref l0), some (.int l1), some (.int l2), some (.int v1), some (.int x3), o5]) (st' := []) (h' := h2) rfl ?_ ?_
    · refine mX_to 5 (k' := 30) (ls' := [some (.ref l0), some (.int l1), some (.int l2), some (.int v1), some (.int x3), o5]) (st' := [.int (jmax (v1 - x3) 0)]) (h' := h2) rfl ?_
      rfl
    · refine mX_to 6 (k' := 30) (ls' := [some (.ref l0), some (.int l1), some (.int l2), some (.int v1), some (.int x3), o5]) (st' := [.int (jmin (v1 + x3) 8)]) (h' := h2) rfl ?_
      rfl
  · exact mX_ret rfl
theorem D_X9_slideAll_30 (d : Nat) (h : MH) (l0 : Nat) (l1 : Int32) (l2 : Int32) (l3 : Int32) (l4 : Int32) (o5 : Option Value) (s0 : Int32) : mX (mE mtab d) KX9_slideAll 30 [some (.ref l0), some (.int l1), some (.int l2), some (.int l3), some (.int l4), o5] [.int s0] h = (if s0 = l3 then mX (mE mtab d) KX9_slideAll 44 [some (.ref l0), some (.int l1), some (.int l2), some (.int l3), some (.int l4), some (.int s0)] [] h else ck (kd h l0 = 10) (cV (mE mtab d 189 [.ref l0, .int l2, .int l3, .int s0] h) (fun h4 => ck (kd h4 l0 = 10) (ck (kd h4 (gR h4 l0 2) = 20 ∧ ib l2 (ln h4 (gR h4 l0 2))) (lt_ (sI h4 (gR h4 l0 2) (ix l2) s0) fun h5 => mX (mE mtab d) KX9_slideAll 44 [some (.ref l0), some (.int l1), some (.int l2), some (.int l3), some (.int l4), some (.int s0)] [] h5))))) := by
  refine mX_to 3 (k' := 33) (ls' := [some (.ref l0), some (.int l1), some (.int l2), some (.int l3), some (.int l4), some (.int s0)]) (st' := [.int l3, .int s0]) (h' := h) rfl ?_
  refine mX_br (t := 44) (f := 34) (ls' := [some (.ref l0), some (.int l1), some (.int l2), some (.int l3), some (.int l4), some (.int s0)]) (st' := []) (h' := h) rfl ?_ ?_
  · rfl
  · refine mX_to 4 (k' := 38) (ls' := [some (.ref l0), some (.int l1), some (.int l2), some (.int l3), some (.int l4), some (.int s0)]) (st' := [.int s0, .int l3, .int l2, .ref l0]) (h' := h) rfl ?_
    refine mX_ckc (m := mcl (mE mtab d 189 [.ref l0, .int l2, .int l3, .int s0] h) 0 39 [some (.ref l0), some (.int l1), some (.int l2), some (.int l3), some (.int l4), some (.int s0)] []) rfl ?_
    refine mk_cV ?_
    intro h4
    refine mX_to 1 (k' := 40) (ls' := [some (.ref l0), some (.int l1), some (.int l2), some (.int l3), some (.int l4), some (.int s0)]) (st' := [.ref l0]) (h' := h4) rfl ?_
    refine mX_ck (k' := 41) (ls' := [some (.ref l0), some (.int l1), some (.int l2), some (.int l3), some (.int l4), some (.int s0)]) (st' := [.ref (gR h4 l0 2)]) (h' := h4) rfl ?_
    refine mX_to 2 (k' := 43) (ls' := [some (.ref l0), some (.int l1), some (.int l2), some (.int l3), some (.int l4), some (.int s0)]) (st' := [.int s0, .int l2, .ref (gR h4 l0 2)]) (h' := h4) rfl ?_
    refine mX_ck (k' := 44) (ls' := [some (.ref l0), some (.int l1), some (.int l2), some (.int l3), some (.int l4), some (.int s0)]) (st' := []) (h' := (sI h4 (gR h4 l0 2) (ix l2) s0)) rfl ?_
    refine lt_gen (X := fun h5 : MH => mX (mE mtab d) KX9_slideAll 44 [some (.ref l0), some (.int l1), some (.int l2), some (.int l3), some (.int l4), some (.int s0)] [] h5) fun h5 => ?_
    rfl
theorem D_X9_slideAll_44 (d : Nat) (h : MH) (l0 : Nat) (l1 : Int32) (l2 : Int32) (l3 : Int32) (l4 : Int32) (l5 : Int32) : mX (mE mtab d) KX9_slideAll 44 [some (.ref l0), some (.int l1), some (.int l2), some (.int l3), some (.int l4), some (.int l5)] [] h = mX (mE mtab d) KX9_slideAll 2 [some (.ref l0), some (.int l1), some (.int (l2 + 1)), some (.int l3), some (.int l4), some (.int l5)] [] h := by
  refine mX_to 2 (k' := 2) (ls' := [some (.ref l0), some (.int l1), some (.int (l2 + 1)), some (.int l3), some (.int l4), some (.int l5)]) (st' := []) (h' := h) rfl ?_
  rfl
theorem D_X9_slideAll (d : Nat) (h : MH) (a0 : Nat) (a1 : Int32) : mE mtab (d + 1) 190 [.ref a0, .int a1] h = mX (mE mtab d) KX9_slideAll 2 [some (.ref a0), some (.int a1), some (.int 0), none, none, none] [] h := by
  refine mE_eq (q := (yX9_slideAll, cX9_slideAll, 6, none, KX9_slideAll)) (C := KX9_slideAll) (ls := [some (.ref a0), some (.int a1), none, none, none, none]) rfl rfl rfl rfl ?_
  refine mX_to 2 (k' := 2) (ls' := [some (.ref a0), some (.int a1), some (.int 0), none, none, none]) (st' := []) (h' := h) rfl ?_
  rfl
theorem D_X9_passHour_28 (d : Nat) (h : MH) (l0 : Nat) (l1 : Int32) (l2 : Int32) (s0 : Int32) : mX (mE mtab d) KX9_passHour 28 [some (.ref l0), some (.int l1), some (.int l2), none] [.int s0] h = (if s0 = 0 then mX (mE mtab d) KX9_passHour 38 [some (.ref l0), some (.int l1), some (.int l2), some (.int s0)] [] h else (if l2 ≤ 0 then mX (mE mtab d) KX9_passHour 37 [some (.ref l0), some (.int l1), some (.int l2), some (.int s0)] [.int 0, .ref l0] h else mX (mE mtab d) KX9_passHour 37 [some (.ref l0), some (.int l1), some (.int l2), some (.int s0)] [.int 1, .ref l0] h)) := by
  refine mX_to 2 (k' := 30) (ls' := [some (.ref l0), some (.int l1), some (.int l2), some (.int s0)]) (st' := [.int s0]) (h' := h) rfl ?_
  refine mX_br (t := 38) (f := 31) (ls' := [some (.ref l0), some (.int l1), some (.int l2), some (.int s0)]) (st' := []) (h' := h) rfl ?_ ?_
  · rfl
  · refine mX_to 2 (k' := 33) (ls' := [some (.ref l0), some (.int l1), some (.int l2), some (.int s0)]) (st' := [.int l2, .ref l0]) (h' := h) rfl ?_
    refine mX_br (t := 36) (f := 34) (ls' := [some (.ref l0), some (.int l1), some (.int l2), some (.int s0)]) (st' := [.ref l0]) (h' := h) rfl ?_ ?_
    · refine mX_to 1 (k' := 37) (ls' := [some (.ref l0), some (.int l1), some (.int l2), some (.int s0)]) (st' := [.int 0, .ref l0]) (h' := h) rfl ?_
      rfl
    · refine mX_to 2 (k' := 37) (ls' := [some (.ref l0), some (.int l1), some (.int l2), some (.int s0)]) (st' := [.int 1, .ref l0]) (h' := h) rfl ?_
      rfl
theorem D_X9_passHour_38 (d : Nat) (h : MH) (l0 : Nat) (l1 : Int32) (l2 : Int32) (l3 : Int32) : mX (mE mtab d) KX9_passHour 38 [some (.ref l0), some (.int l1), some (.int l2), some (.int l3)] [] h = ck (kd h l0 = 10) (ck (kd h l0 = 10) (lt_ (sI h l0 5 ((gI h l0 5) + 1)) fun h9 => ck (mrt 1 l3) (some (.int l3, h9)))) := by
  refine mX_to 2 (k' := 40) (ls' := [some (.ref l0), some (.int l1), some (.int l2), some (.int l3)]) (st' := [.ref l0, .ref l0]) (h' := h) rfl ?_
  refine mX_ck (k' := 41) (ls' := [some (.ref l0), some (.int l1), some (.int l2), some (.int l3)]) (st' := [.int (gI h l0 5), .ref l0]) (h' := h) rfl ?_
  refine mX_to 2 (k' := 43) (ls' := [some (.ref l0), some (.int l1), some (.int l2), some (.int l3)]) (st' := [.int ((gI h l0 5) + 1), .ref l0]) (h' := h) rfl ?_
  refine mX_ck (k' := 44) (ls' := [some (.ref l0), some (.int l1), some (.int l2), some (.int l3)]) (st' := []) (h' := (sI h l0 5 ((gI h l0 5) + 1))) rfl ?_
  refine lt_gen (X := fun h9 : MH => mX (mE mtab d) KX9_passHour 44 [some (.ref l0), some (.int l1), some (.int l2), some (.int l3)] [] h9) fun h9 => ?_
  refine mX_to 1 (k' := 45) (ls' := [some (.ref l0), some (.int l1), some (.int l2), some (.int l3)]) (st' := [.int l3]) (h' := h9) rfl ?_
  exact mX_retc rfl
theorem D_X9_passHour_37 (d : Nat) (h : MH) (l0 : Nat) (l1 : Int32) (l2 : Int32) (l3 : Int32) (s0 : Int32) (s1 : Nat) : mX (mE mtab d) KX9_passHour 37 [some (.ref l0), some (.int l1), some (.int l2), some (.int l3)] [.int s0, .ref s1] h = ck (kd h s1 = 10) (cV (mE mtab d 190 [.ref s1, .int s0] h) (fun h10 => mX (mE mtab d) KX9_passHour 38 [some (.ref l0), some (.int l1), some (.int l2), some (.int l3)] [] h10)) := by
  refine mX_ckc (m := mcl (mE mtab d 190 [.ref s1, .int s0] h) 0 38 [some (.ref l0), some (.int l1), some (.int l2), some (.int l3)] []) rfl ?_
  refine mk_cV ?_
  intro h10
  rfl
theorem D_X9_passHour (d : Nat) (h : MH) (a0 : Nat) : mE mtab (d + 1) 191 [.ref a0] h = ck (kd h a0 = 10) (cI (mE mtab d 187 [.ref a0] h) (fun x2 h1 => lt_ (x2 - x2 / 9 * 9) fun v3 => ck (kd h1 a0 = 10) (ck (kd h1 a0 = 10) (ck ((kd h1 (gR h1 a0 4) = 20 ∨ kd h1 (gR h1 a0 4) = 24) ∧ ib v3 (ln h1 (gR h1 a0 4))) (ck (kd h1 (gR h1 a0 4) = 20 ∧ ib v3 (ln h1 (gR h1 a0 4))) (lt_ (sI h1 (gR h1 a0 4) (ix v3) (jmin ((gI h1 (gR h1 a0 4) (ix v3)) + 1) 9)) fun h4 => ck (kd h4 a0 = 10) (cI (mE mtab d 139 [.ref a0] h4) (fun x6 h5 => ck (kd h5 a0 = 10) (cI (mE mtab d 145 [.ref a0] h5) (fun x8 h7 => (if (jabs x6) ≤ x8 then mX (mE mtab d) KX9_passHour 28 [some (.ref a0), some (.int v3), some (.int x6), none] [.int 0] h7 else mX (mE mtab d) KX9_passHour 28 [some (.ref a0), some (.int v3), some (.int x6), none] [.int 1] h7))))))))))) := by
  refine mE_eq (q := (yX9_passHour, cX9_passHour, 4, (some .boolean), KX9_passHour)) (C := KX9_passHour) (ls := [some (.ref a0), none, none, none]) rfl rfl rfl rfl ?_
  refine mX_to 1 (k' := 1) (ls' := [some (.ref a0), none, none, none]) (st' := [.ref a0]) (h' := h) rfl ?_
  refine mX_ckc (m := mcl (mE mtab d 187 [.ref a0] h) 1 2 [some (.ref a0), none, none, none] []) rfl ?_
  refine mk_cI ?_
  intro x2 h1
  refine mX_to 1 (k' := 3) (ls' := [some (.ref a0), none, none, none]) (st' := [.int 9, .int x2]) (h' := h1) rfl ?_
  refine mX_ckt (c := ¬ (9 : Int32) = 0) (k' := 4) (ls' := [some (.ref a0), none, none, none]) (st' := [.int (x2 - x2 / 9 * 9)]) (h' := h1) (by decide) rfl ?_
  refine lt_gen (X := fun v3 : Int32 => mX (mE mtab d) KX9_passHour 4 [some (.ref a0), none, none, none] [.int v3] h1) fun v3 => ?_
  refine mX_to 2 (k' := 6) (ls' := [some (.ref a0), some (.int v3), none, none]) (st' := [.ref a0]) (h' := h1) rfl ?_
  refine mX_ck (k' := 7) (ls' := [some (.ref a0), some (.int v3), none, none]) (st' := [.ref (gR h1 a0 4)]) (h' := h1) rfl ?_
  refine mX_to 2 (k' := 9) (ls' := [some (.ref a0), some (.int v3), none, none]) (st' := [.ref a0, .int v3, .ref (gR h1 a0 4)]) (h' := h1) rfl ?_
  refine mX_ck (k' := 10) (ls' := [some (.ref a0), some (.int v3), none, none]) (st' := [.ref (gR h1 a0 4), .int v3, .ref (gR h1 a0 4)]) (h' := h1) rfl ?_
  refine mX_to 1 (k' := 11) (ls' := [some (.ref a0), some (.int v3), none, none]) (st' := [.int v3, .ref (gR h1 a0 4), .int v3, .ref (gR h1 a0 4)]) (h' := h1) rfl ?_
  refine mX_ck (k' := 12) (ls' := [some (.ref a0), some (.int v3), none, none]) (st' := [.int (gI h1 (gR h1 a0 4) (ix v3)), .int v3, .ref (gR h1 a0 4)]) (h' := h1) rfl ?_
  refine mX_to 4 (k' := 16) (ls' := [some (.ref a0), some (.int v3), none, none]) (st' := [.int (jmin ((gI h1 (gR h1 a0 4) (ix v3)) + 1) 9), .int v3, .ref (gR h1 a0 4)]) (h' := h1) rfl ?_
  refine mX_ck (k' := 17) (ls' := [some (.ref a0), some (.int v3), none, none]) (st' := []) (h' := (sI h1 (gR h1 a0 4) (ix v3) (jmin ((gI h1 (gR h1 a0 4) (ix v3)) + 1) 9))) rfl ?_
  refine lt_gen (X := fun h4 : MH => mX (mE mtab d) KX9_passHour 17 [some (.ref a0), some (.int v3), none, none] [] h4) fun h4 => ?_
  refine mX_to 1 (k' := 18) (ls' := [some (.ref a0), some (.int v3), none, none]) (st' := [.ref a0]) (h' := h4) rfl ?_
  refine mX_ckc (m := mcl (mE mtab d 139 [.ref a0] h4) 1 19 [some (.ref a0), some (.int v3), none, none] []) rfl ?_
  refine mk_cI ?_
  intro x6 h5
  refine mX_to 4 (k' := 23) (ls' := [some (.ref a0), some (.int v3), some (.int x6), none]) (st' := [.ref a0, .int (jabs x6)]) (h' := h5) rfl ?_
  refine mX_ckc (m := mcl (mE mtab d 145 [.ref a0] h5) 1 24 [some (.ref a0), some (.int v3), some (.int x6), none] [.int (jabs x6)]) rfl ?_
  refine mk_cI ?_
  intro x8 h7
  refine mX_br (t := 27) (f := 25) (ls' := [some (.ref a0), some (.int v3), some (.int x6), none]) (st' := []) (h' := h7) rfl ?_ ?_
  · refine mX_to 1 (k' := 28) (ls' := [some (.ref a0), some (.int v3), some (.int x6), none]) (st' := [.int 0]) (h' := h7) rfl ?_
    rfl
  · refine mX_to 2 (k' := 28) (ls' := [some (.ref a0), some (.int v3), some (.int x6), none]) (st' := [.int 1]) (h' := h7) rfl ?_
    rfl
theorem D_X0_waits_4 (d : Nat) (h : MH) (l0 : Nat) (l1 : Int32) (l2 : Int32) (l3 : Int32) : mX (mE mtab d) KX0_waits 4 [some (.ref l0), some (.int l1), some (.int l2), some (.int l3)] [] h = (if l3 < l1 then ck (kd h l0 = 1) (ck (kd h (gR h l0 0) = 10) ((if (gI h (gR h l0 0) 5) < 9999 then ck (kd h l0 = 1) (ck (kd h l0 = 1) (ck (kd h (gR h l0 1) = 7) (cV (mE mtab d 137 [.ref (gR h l0 1), .ref (gR h l0 0)] h) (fun h1 => ck (kd h1 l0 = 1) (ck (kd h1 (gR h1 l0 0) = 10) (cI (mE mtab d 191 [.ref (gR h1 l0 0)] h1) (fun x3 h2 => (if x3 = 0 then mX (mE mtab d) KX0_waits 25 [some (.ref l0), some (.int l1), some (.int l2), some (.int l3)] [.int 0, .int l2] h2 else mX (mE mtab d) KX0_waits 25 [some (.ref l0), some (.int l1), some (.int l2), some (.int l3)] [.int 1, .int l2] h2)))))))) else some (.int l2, h)))) else some (.int l2, h)) := by
  refine mX_to 2 (k' := 6) (ls' := [some (.ref l0), some (.int l1), some (.int l2), some (.int l3)]) (st' := [.int l1, .int l3]) (h' := h) rfl ?_
  refine mX_br (t := 7) (f := 34) (ls' := [some (.ref l0), some (.int l1), some (.int l2), some (.int l3)]) (st' := []) (h' := h) rfl ?_ ?_
  · refine mX_to 1 (k' := 8) (ls' := [some (.ref l0), some (.int l1), some (.int l2), some (.int l3)]) (st' := [.ref l0]) (h' := h) rfl ?_
    refine mX_ck (k' := 9) (ls' := [some (.ref l0), some (.int l1), some (.int l2), some (.int l3)]) (st' := [.ref (gR h l0 0)]) (h' := h) rfl ?_
    refine mX_ck (k' := 10) (ls' := [some (.ref l0), some (.int l1), some (.int l2), some (.int l3)]) (st' := [.int (gI h (gR h l0 0) 5)]) (h' := h) rfl ?_
    refine mX_to 1 (k' := 11) (ls' := [some (.ref l0), some (.int l1), some (.int l2), some (.int l3)]) (st' := [.int 9999, .int (gI h (gR h l0 0) 5)]) (h' := h) rfl ?_
    refine mX_br (t := 12) (f := 34) (ls' := [some (.ref l0), some (.int l1), some (.int l2), some (.int l3)]) (st' := []) (h' := h) rfl ?_ ?_
    · refine mX_to 1 (k' := 13) (ls' := [some (.ref l0), some (.int l1), some (.int l2), some (.int l3)]) (st' := [.ref l0]) (h' := h) rfl ?_
      refine mX_ck (k' := 14) (ls' := [some (.ref l0), some (.int l1), some (.int l2), some (.int l3)]) (st' := [.ref (gR h l0 1)]) (h' := h) rfl ?_
      refine mX_to 1 (k' := 15) (ls' := [some (.ref l0), some (.int l1), some (.int l2), some (.int l3)]) (st' := [.ref l0, .ref (gR h l0 1)]) (h' := h) rfl ?_
      refine mX_ck (k' := 16) (ls' := [some (.ref l0), some (.int l1), some (.int l2), some (.int l3)]) (st' := [.ref (gR h l0 0), .ref (gR h l0 1)]) (h' := h) rfl ?_
      refine mX_ckc (m := mcl (mE mtab d 137 [.ref (gR h l0 1), .ref (gR h l0 0)] h) 0 17 [some (.ref l0), some (.int l1), some (.int l2), some (.int l3)] []) rfl ?_
      refine mk_cV ?_
      intro h1
      refine mX_to 2 (k' := 19) (ls' := [some (.ref l0), some (.int l1), some (.int l2), some (.int l3)]) (st' := [.ref l0, .int l2]) (h' := h1) rfl ?_
      refine mX_ck (k' := 20) (ls' := [some (.ref l0), some (.int l1), some (.int l2), some (.int l3)]) (st' := [.ref (gR h1 l0 0), .int l2]) (h' := h1) rfl ?_
      refine mX_ckc (m := mcl (mE mtab d 191 [.ref (gR h1 l0 0)] h1) 1 21 [some (.ref l0), some (.int l1), some (.int l2), some (.int l3)] [.int l2]) rfl ?_
      refine mk_cI ?_
      intro x3 h2
      refine mX_br (t := 24) (f := 22) (ls' := [some (.ref l0), some (.int l1), some (.int l2), some (.int l3)]) (st' := [.int l2]) (h' := h2) rfl ?_ ?_
      · refine mX_to 1 (k' := 25) (ls' := [some (.ref l0), some (.int l1), some (.int l2), some (.int l3)]) (st' := [.int 0, .int l2]) (h' := h2) rfl ?_
        rfl
      · refine mX_to 2 (k' := 25) (ls' := [some (.ref l0), some (.int l1), some (.int l2), some (.int l3)]) (st' := [.int 1, .int l2]) (h' := h2) rfl ?_
        rfl
    · refine mX_to 1 (k' := 35) (ls' := [some (.ref l0), some (.int l1), some (.int l2), some (.int l3)]) (st' := [.int l2]) (h' := h) rfl ?_
      exact mX_reti rfl
  · refine mX_to 1 (k' := 35) (ls' := [some (.ref l0), some (.int l1), some (.int l2), some (.int l3)]) (st' := [.int l2]) (h' := h) rfl ?_
    exact mX_reti rfl
theorem D_X0_waits_25 (d : Nat) (h : MH) (l0 : Nat) (l1 : Int32) (l2 : Int32) (l3 : Int32) (s0 : Int32) (s1 : Int32) : mX (mE mtab d) KX0_waits 25 [some (.ref l0), some (.int l1), some (.int l2), some (.int l3)] [.int s0, .int s1] h = lt_ (s1 + s0) fun v4 => ck (kd h l0 = 1) (ck (kd h (gR h l0 1) = 7) (cI (mE mtab d 148 [.ref (gR h l0 1), .int 1] h) (fun x6 h5 => mX (mE mtab d) KX0_waits 4 [some (.ref l0), some (.int l1), some (.int v4), some (.int (l3 + 1))] [] h5))) := by
  refine mX_to 1 (k' := 26) (ls' := [some (.ref l0), some (.int l1), some (.int l2), some (.int l3)]) (st' := [.int (s1 + s0)]) (h' := h) rfl ?_
  refine lt_gen (X := fun v4 : Int32 => mX (mE mtab d) KX0_waits 26 [some (.ref l0), some (.int l1), some (.int l2), some (.int l3)] [.int v4] h) fun v4 => ?_
  refine mX_to 2 (k' := 28) (ls' := [some (.ref l0), some (.int l1), some (.int v4), some (.int l3)]) (st' := [.ref l0]) (h' := h) rfl ?_
  refine mX_ck (k' := 29) (ls' := [some (.ref l0), some (.int l1), some (.int v4), some (.int l3)]) (st' := [.ref (gR h l0 1)]) (h' := h) rfl ?_
  refine mX_to 1 (k' := 30) (ls' := [some (.ref l0), some (.int l1), some (.int v4), some (.int l3)]) (st' := [.int 1, .ref (gR h l0 1)]) (h' := h) rfl ?_
  refine mX_ckc (m := mcl (mE mtab d 148 [.ref (gR h l0 1), .int 1] h) 1 31 [some (.ref l0), some (.int l1), some (.int v4), some (.int l3)] []) rfl ?_
  refine mk_cI ?_
  intro x6 h5
  refine mX_to 3 (k' := 4) (ls' := [some (.ref l0), some (.int l1), some (.int v4), some (.int (l3 + 1))]) (st' := []) (h' := h5) rfl ?_
  rfl
theorem D_X0_waits (d : Nat) (h : MH) (a0 : Nat) (a1 : Int32) : mE mtab (d + 1) 192 [.ref a0, .int a1] h = mX (mE mtab d) KX0_waits 4 [some (.ref a0), some (.int a1), some (.int 0), some (.int 0)] [] h := by
  refine mE_eq (q := (yX0_waits, cX0_waits, 4, (some .int), KX0_waits)) (C := KX0_waits) (ls := [some (.ref a0), some (.int a1), none, none]) rfl rfl rfl rfl ?_
  refine mX_to 4 (k' := 4) (ls' := [some (.ref a0), some (.int a1), some (.int 0), some (.int 0)]) (st' := []) (h' := h) rfl ?_
  rfl
theorem D_X10_hour (d : Nat) (h : MH) (a0 : Nat) (a1 : Int32) : mE mtab (d + 1) 193 [.ref a0, .int a1] h = cI (mE mtab d 11 [.int a1, .int 1, .int 60] h) (fun x2 h1 => (if x2 = 0 then some (.int (-1), h1) else ck (kd h1 a0 = 11) (ck (kd h1 (gR h1 a0 0) = 1) (ck (kd h1 (gR h1 (gR h1 a0 0) 0) = 10) ((if ((gI h1 (gR h1 (gR h1 a0 0) 0) 5) + a1) ≤ 9999 then ck (kd h1 a0 = 11) (ck (kd h1 (gR h1 a0 0) = 1) (cI (mE mtab d 192 [.ref (gR h1 a0 0), .int a1] h1) (fun x4 h3 => some (.int x4, h3)))) else some (.int (-1), h1))))))) := by
  refine mE_eq (q := (yX10_hour, cX10_hour, 2, (some .int), KX10_hour)) (C := KX10_hour) (ls := [some (.ref a0), some (.int a1)]) rfl rfl rfl rfl ?_
  refine mX_to 3 (k' := 3) (ls' := [some (.ref a0), some (.int a1)]) (st' := [.int 60, .int 1, .int a1]) (h' := h) rfl ?_
  refine mX_cI (o := mE mtab d 11 [.int a1, .int 1, .int 60] h) (k' := 4) (ls' := [some (.ref a0), some (.int a1)]) (st' := []) rfl ?_
  intro x2 h1
  refine mX_br (t := 13) (f := 5) (ls' := [some (.ref a0), some (.int a1)]) (st' := []) (h' := h1) rfl ?_ ?_
  · refine mX_to 1 (k' := 14) (ls' := [some (.ref a0), some (.int a1)]) (st' := [.int (-1)]) (h' := h1) rfl ?_
    exact mX_reti rfl
  · refine mX_to 1 (k' := 6) (ls' := [some (.ref a0), some (.int a1)]) (st' := [.ref a0]) (h' := h1) rfl ?_
    refine mX_ck (k' := 7) (ls' := [some (.ref a0), some (.int a1)]) (st' := [.ref (gR h1 a0 0)]) (h' := h1) rfl ?_
    refine mX_ck (k' := 8) (ls' := [some (.ref a0), some (.int a1)]) (st' := [.ref (gR h1 (gR h1 a0 0) 0)]) (h' := h1) rfl ?_
    refine mX_ck (k' := 9) (ls' := [some (.ref a0), some (.int a1)]) (st' := [.int (gI h1 (gR h1 (gR h1 a0 0) 0) 5)]) (h' := h1) rfl ?_
    refine mX_to 3 (k' := 12) (ls' := [some (.ref a0), some (.int a1)]) (st' := [.int 9999, .int ((gI h1 (gR h1 (gR h1 a0 0) 0) 5) + a1)]) (h' := h1) rfl ?_
    refine mX_br (t := 15) (f := 13) (ls' := [some (.ref a0), some (.int a1)]) (st' := []) (h' := h1) rfl ?_ ?_
    · refine mX_to 1 (k' := 16) (ls' := [some (.ref a0), some (.int a1)]) (st' := [.ref a0]) (h' := h1) rfl ?_
      refine mX_ck (k' := 17) (ls' := [some (.ref a0), some (.int a1)]) (st' := [.ref (gR h1 a0 0)]) (h' := h1) rfl ?_
      refine mX_to 1 (k' := 18) (ls' := [some (.ref a0), some (.int a1)]) (st' := [.int a1, .ref (gR h1 a0 0)]) (h' := h1) rfl ?_
      refine mX_ckc (m := mcl (mE mtab d 192 [.ref (gR h1 a0 0), .int a1] h1) 1 19 [some (.ref a0), some (.int a1)] []) rfl ?_
      refine mk_cI ?_
      intro x4 h3
      exact mX_reti rfl
    · refine mX_to 1 (k' := 14) (ls' := [some (.ref a0), some (.int a1)]) (st' := [.int (-1)]) (h' := h1) rfl ?_
      exact mX_reti rfl
theorem D_X11_anew (d : Nat) (h : MH) (a0 : Nat) : mE mtab (d + 1) 194 [.ref a0] h = ck (kd h a0 = 12) (ck (kd h a0 = 12) (ck ((kd h (gR h a0 0) = 20 ∨ kd h (gR h a0 0) = 24) ∧ ib (7 : Int32) (ln h (gR h a0 0))) (ck (kd h (gR h a0 0) = 20 ∧ ib (7 : Int32) (ln h (gR h a0 0))) (lt_ (sI h (gR h a0 0) (ix (7 : Int32)) ((((((((gI h (gR h a0 0) (ix (7 : Int32))) : Int32).toInt64) * 601) + 467) - (((((gI h (gR h a0 0) (ix (7 : Int32))) : Int32).toInt64) * 601) + 467) / 30841 * 30841) : Int64).toInt32)) fun h1 => some (.int 0, h1))))) := by
  refine mE_eq (q := (yX11_anew, cX11_anew, 1, none, KX11_anew)) (C := KX11_anew) (ls := [some (.ref a0)]) rfl rfl rfl rfl ?_
  refine mX_to 1 (k' := 1) (ls' := [some (.ref a0)]) (st' := [.ref a0]) (h' := h) rfl ?_
  refine mX_ck (k' := 2) (ls' := [some (.ref a0)]) (st' := [.ref (gR h a0 0)]) (h' := h) rfl ?_
  refine mX_to 2 (k' := 4) (ls' := [some (.ref a0)]) (st' := [.ref a0, .int 7, .ref (gR h a0 0)]) (h' := h) rfl ?_
  refine mX_ck (k' := 5) (ls' := [some (.ref a0)]) (st' := [.ref (gR h a0 0), .int 7, .ref (gR h a0 0)]) (h' := h) rfl ?_
  refine mX_to 1 (k' := 6) (ls' := [some (.ref a0)]) (st' := [.int 7, .ref (gR h a0 0), .int 7, .ref (gR h a0 0)]) (h' := h) rfl ?_
  refine mX_ck (k' := 7) (ls' := [some (.ref a0)]) (st' := [.int (gI h (gR h a0 0) (ix (7 : Int32))), .int 7, .ref (gR h a0 0)]) (h' := h) rfl ?_
  refine mX_to 6 (k' := 13) (ls' := [some (.ref a0)]) (st' := [.long 30841, .long (((((gI h (gR h a0 0) (ix (7 : Int32))) : Int32).toInt64) * 601) + 467), .int 7, .ref (gR h a0 0)]) (h' := h) rfl ?_
  refine mX_ckt (c := ¬ (30841 : Int64) = 0) (k' := 14) (ls' := [some (.ref a0)]) (st' := [.long ((((((gI h (gR h a0 0) (ix (7 : Int32))) : Int32).toInt64) * 601) + 467) - (((((gI h (gR h a0 0) (ix (7 : Int32))) : Int32).toInt64) * 601) + 467) / 30841 * 30841), .int 7, .ref (gR h a0 0)]) (h' := h) (by decide) rfl ?_
  refine mX_to 1 (k' := 15) (ls' := [some (.ref a0)]) (st' := [.int ((((((((gI h (gR h a0 0) (ix (7 : Int32))) : Int32).toInt64) * 601) + 467) - (((((gI h (gR h a0 0) (ix (7 : Int32))) : Int32).toInt64) * 601) + 467) / 30841 * 30841) : Int64).toInt32), .int 7, .ref (gR h a0 0)]) (h' := h) rfl ?_
  refine mX_ck (k' := 16) (ls' := [some (.ref a0)]) (st' := []) (h' := (sI h (gR h a0 0) (ix (7 : Int32)) ((((((((gI h (gR h a0 0) (ix (7 : Int32))) : Int32).toInt64) * 601) + 467) - (((((gI h (gR h a0 0) (ix (7 : Int32))) : Int32).toInt64) * 601) + 467) / 30841 * 30841) : Int64).toInt32))) rfl ?_
  refine lt_gen (X := fun h1 : MH => mX (mE mtab d) KX11_anew 16 [some (.ref a0)] [] h1) fun h1 => ?_
  exact mX_ret rfl
theorem D_X11_drawnBy (d : Nat) (h : MH) (a0 : Nat) (a1 : Int32) : mE mtab (d + 1) 195 [.ref a0, .int a1] h = ck (kd h a0 = 12) (ck ((kd h (gR h a0 0) = 20 ∨ kd h (gR h a0 0) = 24) ∧ ib (7 : Int32) (ln h (gR h a0 0))) (ck (¬ a1 = 0) (lt_ ((gI h (gR h a0 0) (ix (7 : Int32))) - (gI h (gR h a0 0) (ix (7 : Int32))) / a1 * a1) fun v1 => ck (kd h a0 = 12) (cV (mE mtab d 194 [.ref a0] h) (fun h2 => some (.int v1, h2)))))) := by
  refine mE_eq (q := (yX11_drawnBy, cX11_drawnBy, 3, (some .int), KX11_drawnBy)) (C := KX11_drawnBy) (ls := [some (.ref a0), some (.int a1), none]) rfl rfl rfl rfl ?_
  refine mX_to 1 (k' := 1) (ls' := [some (.ref a0), some (.int a1), none]) (st' := [.ref a0]) (h' := h) rfl ?_
  refine mX_ck (k' := 2) (ls' := [some (.ref a0), some (.int a1), none]) (st' := [.ref (gR h a0 0)]) (h' := h) rfl ?_
  refine mX_to 1 (k' := 3) (ls' := [some (.ref a0), some (.int a1), none]) (st' := [.int 7, .ref (gR h a0 0)]) (h' := h) rfl ?_
  refine mX_ck (k' := 4) (ls' := [some (.ref a0), some (.int a1), none]) (st' := [.int (gI h (gR h a0 0) (ix (7 : Int32)))]) (h' := h) rfl ?_
  refine mX_to 1 (k' := 5) (ls' := [some (.ref a0), some (.int a1), none]) (st' := [.int a1, .int (gI h (gR h a0 0) (ix (7 : Int32)))]) (h' := h) rfl ?_
  refine mX_ck (k' := 6) (ls' := [some (.ref a0), some (.int a1), none]) (st' := [.int ((gI h (gR h a0 0) (ix (7 : Int32))) - (gI h (gR h a0 0) (ix (7 : Int32))) / a1 * a1)]) (h' := h) rfl ?_
  refine lt_gen (X := fun v1 : Int32 => mX (mE mtab d) KX11_drawnBy 6 [some (.ref a0), some (.int a1), none] [.int v1] h) fun v1 => ?_
  refine mX_to 2 (k' := 8) (ls' := [some (.ref a0), some (.int a1), some (.int v1)]) (st' := [.ref a0]) (h' := h) rfl ?_
  refine mX_ckc (m := mcl (mE mtab d 194 [.ref a0] h) 0 9 [some (.ref a0), some (.int a1), some (.int v1)] []) rfl ?_
  refine mk_cV ?_
  intro h2
  refine mX_to 1 (k' := 10) (ls' := [some (.ref a0), some (.int a1), some (.int v1)]) (st' := [.int v1]) (h' := h2) rfl ?_
  exact mX_reti rfl
theorem D_X11_slidesOf (d : Nat) (h : MH) (a0 : Nat) (a1 : Int32) (a2 : Int32) : mE mtab (d + 1) 196 [.ref a0, .int a1, .int a2] h = ck (kd h a0 = 12) (cV (mE mtab d 160 [.ref a0] h) (fun h1 => ck (kd h1 a0 = 12) (ck (kd h1 (gR h1 a0 20) = 20 ∧ ib (4 : Int32) (ln h1 (gR h1 a0 20))) (lt_ (sI h1 (gR h1 a0 20) (ix (4 : Int32)) a2) fun h2 => ck (kd h2 a0 = 12) (ck (kd h2 a0 = 12) (ck ((kd h2 (gR h2 a0 0) = 20 ∨ kd h2 (gR h2 a0 0) = 24) ∧ ib (22 + a2) (ln h2 (gR h2 a0 0))) (ck (kd h2 (gR h2 a0 20) = 20 ∧ ib (5 : Int32) (ln h2 (gR h2 a0 20))) (lt_ (sI h2 (gR h2 a0 20) (ix (5 : Int32)) (gI h2 (gR h2 a0 0) (ix (22 + a2)))) fun h3 => ck (kd h3 a0 = 12) (ck (kd h3 a0 = 12) (ck ((kd h3 (gR h3 a0 0) = 20 ∨ kd h3 (gR h3 a0 0) = 24) ∧ ib (9 + a2) (ln h3 (gR h3 a0 0))) (ck (kd h3 (gR h3 a0 20) = 20 ∧ ib (6 : Int32) (ln h3 (gR h3 a0 20))) (lt_ (sI h3 (gR h3 a0 20) (ix (6 : Int32)) (gI h3 (gR h3 a0 0) (ix (9 + a2)))) fun h4 => ck (kd h4 a0 = 12) (cI (mE mtab d 171 [.ref a0, .int a1, .int 1, .int 1, .int 3] h4) (fun x6 h5 => some (.int x6, h5))))))))))))))) := by
  refine mE_eq (q := (yX11_slidesOf, cX11_slidesOf, 3, (some .int), KX11_slidesOf)) (C := KX11_slidesOf) (ls := [some (.ref a0), some (.int a1), some (.int a2)]) rfl rfl rfl rfl ?_
  refine mX_to 1 (k' := 1) (ls' := [some (.ref a0), some (.int a1), some (.int a2)]) (st' := [.ref a0]) (h' := h) rfl ?_
  refine mX_ckc (m := mcl (mE mtab d 160 [.ref a0] h) 0 2 [some (.ref a0), some (.int a1), some (.int a2)] []) rfl ?_
  refine mk_cV ?_
  intro h1
  refine mX_to 1 (k' := 3) (ls' := [some (.ref a0), some (.int a1), some (.int a2)]) (st' := [.ref a0]) (h' := h1) rfl ?_
  refine mX_ck (k' := 4) (ls' := [some (.ref a0), some (.int a1), some (.int a2)]) (st' := [.ref (gR h1 a0 20)]) (h' := h1) rfl ?_
  refine mX_to 2 (k' := 6) (ls' := [some (.ref a0), some (.int a1), some (.int a2)]) (st' := [.int a2, .int 4, .ref (gR h1 a0 20)]) (h' := h1) rfl ?_
  refine mX_ck (k' := 7) (ls' := [some (.ref a0), some (.int a1), some (.int a2)]) (st' := []) (h' := (sI h1 (gR h1 a0 20) (ix (4 : Int32)) a2)) rfl ?_
  refine lt_gen (X := fun h2 : MH => mX (mE mtab d) KX11_slidesOf 7 [some (.ref a0), some (.int a1), some (.int a2)] [] h2) fun h2 => ?_
  refine mX_to 1 (k' := 8) (ls' := [some (.ref a0), some (.int a1), some (.int a2)]) (st' := [.ref a0]) (h' := h2) rfl ?_
  refine mX_ck (k' := 9) (ls' := [some (.ref a0), some (.int a1), some (.int a2)]) (st' := [.ref (gR h2 a0 20)]) (h' := h2) rfl ?_
  refine mX_to 2 (k' := 11) (ls' := [some (.ref a0), some (.int a1), some (.int a2)]) (st' := [.ref a0, .int 5, .ref (gR h2 a0 20)]) (h' := h2) rfl ?_
  refine mX_ck (k' := 12) (ls' := [some (.ref a0), some (.int a1), some (.int a2)]) (st' := [.ref (gR h2 a0 0), .int 5, .ref (gR h2 a0 20)]) (h' := h2) rfl ?_
  refine mX_to 3 (k' := 15) (ls' := [some (.ref a0), some (.int a1), some (.int a2)]) (st' := [.int (22 + a2), .ref (gR h2 a0 0), .int 5, .ref (gR h2 a0 20)]) (h' := h2) rfl ?_
  refine mX_ck (k' := 16) (ls' := [some (.ref a0), some (.int a1), some (.int a2)]) (st' := [.int (gI h2 (gR h2 a0 0) (ix (22 + a2))), .int 5, .ref (gR h2 a0 20)]) (h' := h2) rfl ?_
  refine mX_ck (k' := 17) (ls' := [some (.ref a0), some (.int a1), some (.int a2)]) (st' := []) (h' := (sI h2 (gR h2 a0 20) (ix (5 : Int32)) (gI h2 (gR h2 a0 0) (ix (22 + a2))))) rfl ?_
  refine lt_gen (X := fun h3 : MH => mX (mE mtab d) KX11_slidesOf 17 [some (.ref a0), some (.int a1), some (.int a2)] [] h3) fun h3 => ?_
  refine mX_to 1 (k' := 18) (ls' := [some (.ref a0), some (.int a1), some (.int a2)]) (st' := [.ref a0]) (h' := h3) rfl ?_
  refine mX_ck (k' := 19) (ls' := [some (.ref a0), some (.int a1), some (.int a2)]) (st' := [.ref (gR h3 a0 20)]) (h' := h3) rfl ?_
  refine mX_to 2 (k' := 21) (ls' := [some (.ref a0), some (.int a1), some (.int a2)]) (st' := [.ref a0, .int 6, .ref (gR h3 a0 20)]) (h' := h3) rfl ?_
  refine mX_ck (k' := 22) (ls' := [some (.ref a0), some (.int a1), some (.int a2)]) (st' := [.ref (gR h3 a0 0), .int 6, .ref (gR h3 a0 20)]) (h' := h3) rfl ?_
  refine mX_to 3 (k' := 25) (ls' := [some (.ref a0), some (.int a1), some (.int a2)]) (st' := [.int (9 + a2), .ref (gR h3 a0 0), .int 6, .ref (gR h3 a0 20)]) (h' := h3) rfl ?_
  refine mX_ck (k' := 26) (ls' := [some (.ref a0), some (.int a1), some (.int a2)]) (st' := [.int (gI h3 (gR h3 a0 0) (ix (9 + a2))), .int 6, .ref (gR h3 a0 20)]) (h' := h3) rfl ?_
  refine mX_ck (k' := 27) (ls' := [some (.ref a0), some (.int a1), some (.int a2)]) (st' := []) (h' := (sI h3 (gR h3 a0 20) (ix (6 : Int32)) (gI h3 (gR h3 a0 0) (ix (9 + a2))))) rfl ?_
  refine lt_gen (X := fun h4 : MH => mX (mE mtab d) KX11_slidesOf 27 [some (.ref a0), some (.int a1), some (.int a2)] [] h4) fun h4 => ?_
  refine mX_to 5 (k' := 32) (ls' := [some (.ref a0), some (.int a1), some (.int a2)]) (st' := [.int 3, .int 1, .int 1, .int a1, .ref a0]) (h' := h4) rfl ?_
  refine mX_ckc (m := mcl (mE mtab d 171 [.ref a0, .int a1, .int 1, .int 1, .int 3] h4) 1 33 [some (.ref a0), some (.int a1), some (.int a2)] []) rfl ?_
  refine mk_cI ?_
  intro x6 h5
  exact mX_reti rfl
theorem D_X11_write_12 (d : Nat) (h : MH) (l0 : Nat) (l1 : Int32) (l2 : Int32) (l3 : Int32) : mX (mE mtab d) KX11_write 12 [some (.ref l0), some (.int l1), some (.int l2), some (.int l3)] [] h = (if l3 < 30 then ck (kd h l0 = 12) (ck (kd h l0 = 12) (ck ((kd h (gR h l0 0) = 20 ∨ kd h (gR h l0 0) = 24) ∧ ib (1468 + l3) (ln h (gR h l0 0))) (ck (kd h (gR h l0 0) = 20 ∧ ib ((1468 + l3) - 1) (ln h (gR h l0 0))) (lt_ (sI h (gR h l0 0) (ix ((1468 + l3) - 1)) (gI h (gR h l0 0) (ix (1468 + l3)))) fun h1 => mX (mE mtab d) KX11_write 12 [some (.ref l0), some (.int l1), some (.int l2), some (.int (l3 + 1))] [] h1)))) else ck (kd h l0 = 12) (ck ((kd h (gR h l0 0) = 20 ∨ kd h (gR h l0 0) = 24) ∧ ib (8 : Int32) (ln h (gR h l0 0))) (ck (kd h (gR h l0 0) = 20 ∧ ib (8 : Int32) (ln h (gR h l0 0))) (lt_ (sI h (gR h l0 0) (ix (8 : Int32)) ((gI h (gR h l0 0) (ix (8 : Int32))) - 1)) fun h3 => mX (mE mtab d) KX11_write 39 [some (.ref l0), some (.int l1), some (.int l2), some (.int l3)] [] h3)))) := by
  refine mX_to 2 (k' := 14) (ls' := [some (.ref l0), some (.int l1), some (.int l2), some (.int l3)]) (st' := [.int 30, .int l3]) (h' := h) rfl ?_
  refine mX_br (t := 15) (f := 31) (ls' := [some (.ref l0), some (.int l1), some (.int l2), some (.int l3)]) (st' := []) (h' := h) rfl ?_ ?_
  · refine mX_to 1 (k' := 16) (ls' := [some (.ref l0), some (.int l1), some (.int l2), some (.int l3)]) (st' := [.ref l0]) (h' := h) rfl ?_
    refine mX_ck (k' := 17) (ls' := [some (.ref l0), some (.int l1), some (.int l2), some (.int l3)]) (st' := [.ref (gR h l0 0)]) (h' := h) rfl ?_
    refine mX_to 6 (k' := 23) (ls' := [some (.ref l0), some (.int l1), some (.int l2), some (.int l3)]) (st' := [.ref l0, .int ((1468 + l3) - 1), .ref (gR h l0 0)]) (h' := h) rfl ?_
    refine mX_ck (k' := 24) (ls' := [some (.ref l0), some (.int l1), some (.int l2), some (.int l3)]) (st' := [.ref (gR h l0 0), .int ((1468 + l3) - 1), .ref (gR h l0 0)]) (h' := h) rfl ?_
    refine mX_to 3 (k' := 27) (ls' := [some (.ref l0), some (.int l1), some (.int l2), some (.int l3)]) (st' := [.int (1468 + l3), .ref (gR h l0 0), .int ((1468 + l3) - 1), .ref (gR h l0 0)]) (h' := h) rfl ?_
    refine mX_ck (k' := 28) (ls' := [some (.ref l0), some (.int l1), some (.int l2), some (.int l3)]) (st' := [.int (gI h (gR h l0 0) (ix (1468 + l3))), .int ((1468 + l3) - 1), .ref (gR h l0 0)]) (h' := h) rfl ?_
    refine mX_ck (k' := 29) (ls' := [some (.ref l0), some (.int l1), some (.int l2), some (.int l3)]) (st' := []) (h' := (sI h (gR h l0 0) (ix ((1468 + l3) - 1)) (gI h (gR h l0 0) (ix (1468 + l3))))) rfl ?_
    refine lt_gen (X := fun h1 : MH => mX (mE mtab d) KX11_write 29 [some (.ref l0), some (.int l1), some (.int l2), some (.int l3)] [] h1) fun h1 => ?_
    refine mX_to 2 (k' := 12) (ls' := [some (.ref l0), some (.int l1), some (.int l2), some (.int (l3 + 1))]) (st' := []) (h' := h1) rfl ?_
    rfl
  · refine mX_to 1 (k' := 32) (ls' := [some (.ref l0), some (.int l1), some (.int l2), some (.int l3)]) (st' := [.ref l0]) (h' := h) rfl ?_
    refine mX_ck (k' := 33) (ls' := [some (.ref l0), some (.int l1), some (.int l2), some (.int l3)]) (st' := [.ref (gR h l0 0)]) (h' := h) rfl ?_
    refine mX_to 2 (k' := 35) (ls' := [some (.ref l0), some (.int l1), some (.int l2), some (.int l3)]) (st' := [.int 8, .ref (gR h l0 0), .int 8, .ref (gR h l0 0)]) (h' := h) rfl ?_
    refine mX_ck (k' := 36) (ls' := [some (.ref l0), some (.int l1), some (.int l2), some (.int l3)]) (st' := [.int (gI h (gR h l0 0) (ix (8 : Int32))), .int 8, .ref (gR h l0 0)]) (h' := h) rfl ?_
    refine mX_to 2 (k' := 38) (ls' := [some (.ref l0), some (.int l1), some (.int l2), some (.int l3)]) (st' := [.int ((gI h (gR h l0 0) (ix (8 : Int32))) - 1), .int 8, .ref (gR h l0 0)]) (h' := h) rfl ?_
    refine mX_ck (k' := 39) (ls' := [some (.ref l0), some (.int l1), some (.int l2), some (.int l3)]) (st' := []) (h' := (sI h (gR h l0 0) (ix (8 : Int32)) ((gI h (gR h l0 0) (ix (8 : Int32))) - 1))) rfl ?_
    refine lt_gen (X := fun h3 : MH => mX (mE mtab d) KX11_write 39 [some (.ref l0), some (.int l1), some (.int l2), some (.int l3)] [] h3) fun h3 => ?_
    rfl
theorem D_X11_write_39 (d : Nat) (h : MH) (l0 : Nat) (l1 : Int32) (l2 : Int32) (o3 : Option Value) : mX (mE mtab d) KX11_write 39 [some (.ref l0), some (.int l1), some (.int l2), o3] [] h = ck (kd h l0 = 12) (ck (kd h l0 = 12) (ck ((kd h (gR h l0 0) = 20 ∨ kd h (gR h l0 0) = 24) ∧ ib (8 : Int32) (ln h (gR h l0 0))) (ck (kd h l0 = 12) (ck ((kd h (gR h l0 0) = 20 ∨ kd h (gR h l0 0) = 24) ∧ ib (6 : Int32) (ln h (gR h l0 0))) (ck (kd h l0 = 12) (ck ((kd h (gR h l0 0) = 20 ∨ kd h (gR h l0 0) = 24) ∧ ib (9 + l1) (ln h (gR h l0 0))) (ck (kd h (gR h l0 0) = 20 ∧ ib (1468 + (gI h (gR h l0 0) (ix (8 : Int32)))) (ln h (gR h l0 0))) (lt_ (sI h (gR h l0 0) (ix (1468 + (gI h (gR h l0 0) (ix (8 : Int32))))) (((((((gI h (gR h l0 0) (ix (6 : Int32))) * 4) + l1) * 9) + l2) * 9) + (gI h (gR h l0 0) (ix (9 + l1))))) fun h4 => ck (kd h4 l0 = 12) (ck ((kd h4 (gR h4 l0 0) = 20 ∨ kd h4 (gR h4 l0 0) = 24) ∧ ib (8 : Int32) (ln h4 (gR h4 l0 0))) (ck (kd h4 (gR h4 l0 0) = 20 ∧ ib (8 : Int32) (ln h4 (gR h4 l0 0))) (lt_ (sI h4 (gR h4 l0 0) (ix (8 : Int32)) ((gI h4 (gR h4 l0 0) (ix (8 : Int32))) + 1)) fun h5 => some (.int 0, h5)))))))))))) := by
  refine mX_to 1 (k' := 40) (ls' := [some (.ref l0), some (.int l1), some (.int l2), o3]) (st' := [.ref l0]) (h' := h) rfl ?_
  refine mX_ck (k' := 41) (ls' := [some (.ref l0), some (.int l1), some (.int l2), o3]) (st' := [.ref (gR h l0 0)]) (h' := h) rfl ?_
  refine mX_to 2 (k' := 43) (ls' := [some (.ref l0), some (.int l1), some (.int l2), o3]) (st' := [.ref l0, .int 1468, .ref (gR h l0 0)]) (h' := h) rfl ?_
  refine mX_ck (k' := 44) (ls' := [some (.ref l0), some (.int l1), some (.int l2), o3]) (st' := [.ref (gR h l0 0), .int 1468, .ref (gR h l0 0)]) (h' := h) rfl ?_
  refine mX_to 1 (k' := 45) (ls' := [some (.ref l0), some (.int l1), some (.int l2), o3]) (st' := [.int 8, .ref (gR h l0 0), .int 1468, .ref (gR h l0 0)]) (h' := h) rfl ?_
  refine mX_ck (k' := 46) (ls' := [some (.ref l0), some (.int l1), some (.int l2), o3]) (st' := [.int (gI h (gR h l0 0) (ix (8 : Int32))), .int 1468, .ref (gR h l0 0)]) (h' := h) rfl ?_
  refine mX_to 2 (k' := 48) (ls' := [some (.ref l0), some (.int l1), some (.int l2), o3]) (st' := [.ref l0, .int (1468 + (gI h (gR h l0 0) (ix (8 : Int32)))), .ref (gR h l0 0)]) (h' := h) rfl ?_
  refine mX_ck (k' := 49) (ls' := [some (.ref l0), some (.int l1), some (.int l2), o3]) (st' := [.ref (gR h l0 0), .int (1468 + (gI h (gR h l0 0) (ix (8 : Int32)))), .ref (gR h l0 0)]) (h' := h) rfl ?_
  refine mX_to 1 (k' := 50) (ls' := [some (.ref l0), some (.int l1), some (.int l2), o3]) (st' := [.int 6, .ref (gR h l0 0), .int (1468 + (gI h (gR h l0 0) (ix (8 : Int32)))), .ref (gR h l0 0)]) (h' := h) rfl ?_
  refine mX_ck (k' := 51) (ls' := [some (.ref l0), some (.int l1), some (.int l2), o3]) (st' := [.int (gI h (gR h l0 0) (ix (6 : Int32))), .int (1468 + (gI h (gR h l0 0) (ix (8 : Int32)))), .ref (gR h l0 0)]) (h' := h) rfl ?_
  refine mX_to 11 (k' := 62) (ls' := [some (.ref l0), some (.int l1), some (.int l2), o3]) (st' := [.ref l0, .int ((((((gI h (gR h l0 0) (ix (6 : Int32))) * 4) + l1) * 9) + l2) * 9), .int (1468 + (gI h (gR h l0 0) (ix (8 : Int32)))), .ref (gR h l0 0)]) (h' := h) rfl ?_
  refine mX_ck (k' := 63) (ls' := [some (.ref l0), some (.int l1), some (.int l2), o3]) (st' := [.ref (gR h l0 0), .int ((((((gI h (gR h l0 0) (ix (6 : Int32))) * 4) + l1) * 9) + l2) * 9), .int (1468 + (gI h (gR h l0 0) (ix (8 : Int32)))), .ref (gR h l0 0)]) (h' := h) rfl ?_
  refine mX_to 3 (k' := 66) (ls' := [some (.ref l0), some (.int l1), some (.int l2), o3]) (st' := [.int (9 + l1), .ref (gR h l0 0), .int ((((((gI h (gR h l0 0) (ix (6 : Int32))) * 4) + l1) * 9) + l2) * 9), .int (1468 + (gI h (gR h l0 0) (ix (8 : Int32)))), .ref (gR h l0 0)]) (h' := h) rfl ?_
  refine mX_ck (k' := 67) (ls' := [some (.ref l0), some (.int l1), some (.int l2), o3]) (st' := [.int (gI h (gR h l0 0) (ix (9 + l1))), .int ((((((gI h (gR h l0 0) (ix (6 : Int32))) * 4) + l1) * 9) + l2) * 9), .int (1468 + (gI h (gR h l0 0) (ix (8 : Int32)))), .ref (gR h l0 0)]) (h' := h) rfl ?_
  refine mX_to 1 (k' := 68) (ls' := [some (.ref l0), some (.int l1), some (.int l2), o3]) (st' := [.int (((((((gI h (gR h l0 0) (ix (6 : Int32))) * 4) + l1) * 9) + l2) * 9) + (gI h (gR h l0 0) (ix (9 + l1)))), .int (1468 + (gI h (gR h l0 0) (ix (8 : Int32)))), .ref (gR h l0 0)]) (h' := h) rfl ?_
  refine mX_ck (k' := 69) (ls' := [some (.ref l0), some (.int l1), some (.int l2), o3]) (st' := []) (h' := (sI h (gR h l0 0) (ix (1468 + (gI h (gR h l0 0) (ix (8 : Int32))))) (((((((gI h (gR h l0 0) (ix (6 : Int32))) * 4) + l1) * 9) + l2) * 9) + (gI h (gR h l0 0) (ix (9 + l1)))))) rfl ?_
  refine lt_gen (X := fun h4 : MH => mX (mE mtab d) KX11_write 69 [some (.ref l0), some (.int l1), some (.int l2), o3] [] h4) fun h4 => ?_
  refine mX_to 1 (k' := 70) (ls' := [some (.ref l0), some (.int l1), some (.int l2), o3]) (st' := [.ref l0]) (h' := h4) rfl ?_
  refine mX_ck (k' := 71) (ls' := [some (.ref l0), some (.int l1), some (.int l2), o3]) (st' := [.ref (gR h4 l0 0)]) (h' := h4) rfl ?_
  refine mX_to 2 (k' := 73) (ls' := [some (.ref l0), some (.int l1), some (.int l2), o3]) (st' := [.int 8, .ref (gR h4 l0 0), .int 8, .ref (gR h4 l0 0)]) (h' := h4) rfl ?_
  refine mX_ck (k' := 74) (ls' := [some (.ref l0), some (.int l1), some (.int l2), o3]) (st' := [.int (gI h4 (gR h4 l0 0) (ix (8 : Int32))), .int 8, .ref (gR h4 l0 0)]) (h' := h4) rfl ?_
  refine mX_to 2 (k' := 76) (ls' := [some (.ref l0), some (.int l1), some (.int l2), o3]) (st' := [.int ((gI h4 (gR h4 l0 0) (ix (8 : Int32))) + 1), .int 8, .ref (gR h4 l0 0)]) (h' := h4) rfl ?_
  refine mX_ck (k' := 77) (ls' := [some (.ref l0), some (.int l1), some (.int l2), o3]) (st' := []) (h' := (sI h4 (gR h4 l0 0) (ix (8 : Int32)) ((gI h4 (gR h4 l0 0) (ix (8 : Int32))) + 1))) rfl ?_
  refine lt_gen (X := fun h5 : MH => mX (mE mtab d) KX11_write 77 [some (.ref l0), some (.int l1), some (.int l2), o3] [] h5) fun h5 => ?_
  exact mX_ret rfl
theorem D_X11_write (d : Nat) (h : MH) (a0 : Nat) (a1 : Int32) (a2 : Int32) : mE mtab (d + 1) 197 [.ref a0, .int a1, .int a2] h = ck (kd h a0 = 12) ((if (gI h a0 23) = 0 then some (.int 0, h) else ck (kd h a0 = 12) (ck ((kd h (gR h a0 0) = 20 ∨ kd h (gR h a0 0) = 24) ∧ ib (8 : Int32) (ln h (gR h a0 0))) ((if (gI h (gR h a0 0) (ix (8 : Int32))) = 30 then mX (mE mtab d) KX11_write 12 [some (.ref a0), some (.int a1), some (.int a2), some (.int 1)] [] h else mX (mE mtab d) KX11_write 39 [some (.ref a0), some (.int a1), some (.int a2), none] [] h))))) := by
  refine mE_eq (q := (yX11_write, cX11_write, 4, none, KX11_write)) (C := KX11_write) (ls := [some (.ref a0), some (.int a1), some (.int a2), none]) rfl rfl rfl rfl ?_
  refine mX_to 1 (k' := 1) (ls' := [some (.ref a0), some (.int a1), some (.int a2), none]) (st' := [.ref a0]) (h' := h) rfl ?_
  refine mX_ck (k' := 2) (ls' := [some (.ref a0), some (.int a1), some (.int a2), none]) (st' := [.int (gI h a0 23)]) (h' := h) rfl ?_
  refine mX_br (t := 3) (f := 4) (ls' := [some (.ref a0), some (.int a1), some (.int a2), none]) (st' := []) (h' := h) rfl ?_ ?_
  · exact mX_ret rfl
  · refine mX_to 1 (k' := 5) (ls' := [some (.ref a0), some (.int a1), some (.int a2), none]) (st' := [.ref a0]) (h' := h) rfl ?_
    refine mX_ck (k' := 6) (ls' := [some (.ref a0), some (.int a1), some (.int a2), none]) (st' := [.ref (gR h a0 0)]) (h' := h) rfl ?_
    refine mX_to 1 (k' := 7) (ls' := [some (.ref a0), some (.int a1), some (.int a2), none]) (st' := [.int 8, .ref (gR h a0 0)]) (h' := h) rfl ?_
    refine mX_ck (k' := 8) (ls' := [some (.ref a0), some (.int a1), some (.int a2), none]) (st' := [.int (gI h (gR h a0 0) (ix (8 : Int32)))]) (h' := h) rfl ?_
    refine mX_to 1 (k' := 9) (ls' := [some (.ref a0), some (.int a1), some (.int a2), none]) (st' := [.int 30, .int (gI h (gR h a0 0) (ix (8 : Int32)))]) (h' := h) rfl ?_
    refine mX_br (t := 10) (f := 39) (ls' := [some (.ref a0), some (.int a1), some (.int a2), none]) (st' := []) (h' := h) rfl ?_ ?_
    · refine mX_to 2 (k' := 12) (ls' := [some (.ref a0), some (.int a1), some (.int a2), some (.int 1)]) (st' := []) (h' := h) rfl ?_
      rfl
    · rfl
theorem D_X11_slide (d : Nat) (h : MH) (a0 : Nat) (a1 : Int32) (a2 : Int32) : mE mtab (d + 1) 198 [.ref a0, .int a1, .int a2] h = ck (kd h a0 = 12) (ck ((kd h (gR h a0 0) = 20 ∨ kd h (gR h a0 0) = 24) ∧ ib (9 + a1) (ln h (gR h a0 0))) (lt_ (gI h (gR h a0 0) (ix (9 + a1))) fun v1 => ck (kd h a0 = 12) (cI (mE mtab d 151 [.int a2] h) (fun x3 h2 => ck (kd h2 a0 = 12) (ck ((kd h2 (gR h2 a0 0) = 20 ∨ kd h2 (gR h2 a0 0) = 24) ∧ ib (3 : Int32) (ln h2 (gR h2 a0 0))) (ck (kd h2 a0 = 12) (cI (mE mtab d 196 [.ref a0, .int (gI h2 (gR h2 a0 0) (ix (3 : Int32))), .int a1] h2) (fun x5 h4 => cI (mE mtab d 170 [.long (((v1 + (x3 * x5)) : Int32).toInt64), .int 0, .int 8] h4) (fun x7 h6 => ck (kd h6 (gR h a0 0) = 20 ∧ ib (9 + a1) (ln h6 (gR h a0 0))) (lt_ (sI h6 (gR h a0 0) (ix (9 + a1)) x7) fun h8 => ck (kd h8 a0 = 12) (ck ((kd h8 (gR h8 a0 0) = 20 ∨ kd h8 (gR h8 a0 0) = 24) ∧ ib (9 + a1) (ln h8 (gR h8 a0 0))) ((if (gI h8 (gR h8 a0 0) (ix (9 + a1))) = v1 then some (.int 0, h8) else ck (kd h8 a0 = 12) (cV (mE mtab d 197 [.ref a0, .int a1, .int v1] h8) (fun h9 => some (.int 0, h9)))))))))))))))) := by
  refine mE_eq (q := (yX11_slide, cX11_slide, 4, none, KX11_slide)) (C := KX11_slide) (ls := [some (.ref a0), some (.int a1), some (.int a2), none]) rfl rfl rfl rfl ?_
  refine mX_to 1 (k' := 1) (ls' := [some (.ref a0), some (.int a1), some (.int a2), none]) (st' := [.ref a0]) (h' := h) rfl ?_
  refine mX_ck (k' := 2) (ls' := [some (.ref a0), some (.int a1), some (.int a2), none]) (st' := [.ref (gR h a0 0)]) (h' := h) rfl ?_
  refine mX_to 3 (k' := 5) (ls' := [some (.ref a0), some (.int a1), some (.int a2), none]) (st' := [.int (9 + a1), .ref (gR h a0 0)]) (h' := h) rfl ?_
  refine mX_ck (k' := 6) (ls' := [some (.ref a0), some (.int a1), some (.int a2), none]) (st' := [.int (gI h (gR h a0 0) (ix (9 + a1)))]) (h' := h) rfl ?_
  refine lt_gen (X := fun v1 : Int32 => mX (mE mtab d) KX11_slide 6 [some (.ref a0), some (.int a1), some (.int a2), none] [.int v1] h) fun v1 => ?_
  refine mX_to 2 (k' := 8) (ls' := [some (.ref a0), some (.int a1), some (.int a2), some (.int v1)]) (st' := [.ref a0]) (h' := h) rfl ?_
  refine mX_ck (k' := 9) (ls' := [some (.ref a0), some (.int a1), some (.int a2), some (.int v1)]) (st' := [.ref (gR h a0 0)]) (h' := h) rfl ?_
  refine mX_to 5 (k' := 14) (ls' := [some (.ref a0), some (.int a1), some (.int a2), some (.int v1)]) (st' := [.int a2, .int v1, .int (9 + a1), .ref (gR h a0 0)]) (h' := h) rfl ?_
  refine mX_cI (o := mE mtab d 151 [.int a2] h) (k' := 15) (ls' := [some (.ref a0), some (.int a1), some (.int a2), some (.int v1)]) (st' := [.int v1, .int (9 + a1), .ref (gR h a0 0)]) rfl ?_
  intro x3 h2
  refine mX_to 2 (k' := 17) (ls' := [some (.ref a0), some (.int a1), some (.int a2), some (.int v1)]) (st' := [.ref a0, .ref a0, .int x3, .int v1, .int (9 + a1), .ref (gR h a0 0)]) (h' := h2) rfl ?_
  refine mX_ck (k' := 18) (ls' := [some (.ref a0), some (.int a1), some (.int a2), some (.int v1)]) (st' := [.ref (gR h2 a0 0), .ref a0, .int x3, .int v1, .int (9 + a1), .ref (gR h a0 0)]) (h' := h2) rfl ?_
  refine mX_to 1 (k' := 19) (ls' := [some (.ref a0), some (.int a1), some (.int a2), some (.int v1)]) (st' := [.int 3, .ref (gR h2 a0 0), .ref a0, .int x3, .int v1, .int (9 + a1), .ref (gR h a0 0)]) (h' := h2) rfl ?_
  refine mX_ck (k' := 20) (ls' := [some (.ref a0), some (.int a1), some (.int a2), some (.int v1)]) (st' := [.int (gI h2 (gR h2 a0 0) (ix (3 : Int32))), .ref a0, .int x3, .int v1, .int (9 + a1), .ref (gR h a0 0)]) (h' := h2) rfl ?_
  refine mX_to 1 (k' := 21) (ls' := [some (.ref a0), some (.int a1), some (.int a2), some (.int v1)]) (st' := [.int a1, .int (gI h2 (gR h2 a0 0) (ix (3 : Int32))), .ref a0, .int x3, .int v1, .int (9 + a1), .ref (gR h a0 0)]) (h' := h2) rfl ?_
  refine mX_ckc (m := mcl (mE mtab d 196 [.ref a0, .int (gI h2 (gR h2 a0 0) (ix (3 : Int32))), .int a1] h2) 1 22 [some (.ref a0), some (.int a1), some (.int a2), some (.int v1)] [.int x3, .int v1, .int (9 + a1), .ref (gR h a0 0)]) rfl ?_
  refine mk_cI ?_
  intro x5 h4
  refine mX_to 5 (k' := 27) (ls' := [some (.ref a0), some (.int a1), some (.int a2), some (.int v1)]) (st' := [.int 8, .int 0, .long (((v1 + (x3 * x5)) : Int32).toInt64), .int (9 + a1), .ref (gR h a0 0)]) (h' := h4) rfl ?_
  refine mX_cI (o := mE mtab d 170 [.long (((v1 + (x3 * x5)) : Int32).toInt64), .int 0, .int 8] h4) (k' := 28) (ls' := [some (.ref a0), some (.int a1), some (.int a2), some (.int v1)]) (st' := [.int (9 + a1), .ref (gR h a0 0)]) rfl ?_
  intro x7 h6
  refine mX_ck (k' := 29) (ls' := [some (.ref a0), some (.int a1), some (.int a2), some (.int v1)]) (st' := []) (h' := (sI h6 (gR h a0 0) (ix (9 + a1)) x7)) rfl ?_
  refine lt_gen (X := fun h8 : MH => mX (mE mtab d) KX11_slide 29 [some (.ref a0), some (.int a1), some (.int a2), some (.int v1)] [] h8) fun h8 => ?_
  refine mX_to 1 (k' := 30) (ls' := [some (.ref a0), some (.int a1), some (.int a2), some (.int v1)]) (st' := [.ref a0]) (h' := h8) rfl ?_
  refine mX_ck (k' := 31) (ls' := [some (.ref a0), some (.int a1), some (.int a2), some (.int v1)]) (st' := [.ref (gR h8 a0 0)]) (h' := h8) rfl ?_
  refine mX_to 3 (k' := 34) (ls' := [some (.ref a0), some (.int a1), some (.int a2), some (.int v1)]) (st' := [.int (9 + a1), .ref (gR h8 a0 0)]) (h' := h8) rfl ?_
  refine mX_ck (k' := 35) (ls' := [some (.ref a0), some (.int a1), some (.int a2), some (.int v1)]) (st' := [.int (gI h8 (gR h8 a0 0) (ix (9 + a1)))]) (h' := h8) rfl ?_
  refine mX_to 1 (k' := 36) (ls' := [some (.ref a0), some (.int a1), some (.int a2), some (.int v1)]) (st' := [.int v1, .int (gI h8 (gR h8 a0 0) (ix (9 + a1)))]) (h' := h8) rfl ?_
  refine mX_br (t := 41) (f := 37) (ls' := [some (.ref a0), some (.int a1), some (.int a2), some (.int v1)]) (st' := []) (h' := h8) rfl ?_ ?_
  · exact mX_ret rfl
  · refine mX_to 3 (k' := 40) (ls' := [some (.ref a0), some (.int a1), some (.int a2), some (.int v1)]) (st' := [.int v1, .int a1, .ref a0]) (h' := h8) rfl ?_
    refine mX_ckc (m := mcl (mE mtab d 197 [.ref a0, .int a1, .int v1] h8) 0 41 [some (.ref a0), some (.int a1), some (.int a2), some (.int v1)] []) rfl ?_
    refine mk_cV ?_
    intro h9
    exact mX_ret rfl
theorem D_X11_pass_22 (d : Nat) (h : MH) (l0 : Nat) (l1 : Int32) : mX (mE mtab d) KX11_pass 22 [some (.ref l0), some (.int l1), none, none] [] h = ck (kd h l0 = 12) (cI (mE mtab d 173 [.ref l0] h) (fun x5 h4 => (if x5 = 0 then mX (mE mtab d) KX11_pass 52 [some (.ref l0), some (.int l1), none, none] [] h4 else ck (kd h4 l0 = 12) (cI (mE mtab d 156 [.ref l0] h4) (fun x7 h6 => (if x7 ≤ 0 then mX (mE mtab d) KX11_pass 31 [some (.ref l0), some (.int l1), none, none] [.int 0] h6 else mX (mE mtab d) KX11_pass 31 [some (.ref l0), some (.int l1), none, none] [.int 1] h6)))))) := by
  refine mX_to 1 (k' := 23) (ls' := [some (.ref l0), some (.int l1), none, none]) (st' := [.ref l0]) (h' := h) rfl ?_
  refine mX_ckc (m := mcl (mE mtab d 173 [.ref l0] h) 1 24 [some (.ref l0), some (.int l1), none, none] []) rfl ?_
  refine mk_cI ?_
  intro x5 h4
  refine mX_br (t := 52) (f := 25) (ls' := [some (.ref l0), some (.int l1), none, none]) (st' := []) (h' := h4) rfl ?_ ?_
  · rfl
  · refine mX_to 1 (k' := 26) (ls' := [some (.ref l0), some (.int l1), none, none]) (st' := [.ref l0]) (h' := h4) rfl ?_
    refine mX_ckc (m := mcl (mE mtab d 156 [.ref l0] h4) 1 27 [some (.ref l0), some (.int l1), none, none] []) rfl ?_
    refine mk_cI ?_
    intro x7 h6
    refine mX_br (t := 30) (f := 28) (ls' := [some (.ref l0), some (.int l1), none, none]) (st' := []) (h' := h6) rfl ?_ ?_
    · refine mX_to 1 (k' := 31) (ls' := [some (.ref l0), some (.int l1), none, none]) (st' := [.int 0]) (h' := h6) rfl ?_
      rfl
    · refine mX_to 2 (k' := 31) (ls' := [some (.ref l0), some (.int l1), none, none]) (st' := [.int 1]) (h' := h6) rfl ?_
      rfl
theorem D_X11_pass_52 (d : Nat) (h : MH) (l0 : Nat) (l1 : Int32) (o2 : Option Value) (o3 : Option Value) : mX (mE mtab d) KX11_pass 52 [some (.ref l0), some (.int l1), o2, o3] [] h = ck (kd h l0 = 12) (ck ((kd h (gR h l0 0) = 20 ∨ kd h (gR h l0 0) = 24) ∧ ib (6 : Int32) (ln h (gR h l0 0))) (ck (kd h (gR h l0 0) = 20 ∧ ib (6 : Int32) (ln h (gR h l0 0))) (lt_ (sI h (gR h l0 0) (ix (6 : Int32)) ((gI h (gR h l0 0) (ix (6 : Int32))) + 1)) fun h8 => some (.int 0, h8)))) := by
  refine mX_to 1 (k' := 53) (ls' := [some (.ref l0), some (.int l1), o2, o3]) (st' := [.ref l0]) (h' := h) rfl ?_
  refine mX_ck (k' := 54) (ls' := [some (.ref l0), some (.int l1), o2, o3]) (st' := [.ref (gR h l0 0)]) (h' := h) rfl ?_
  refine mX_to 2 (k' := 56) (ls' := [some (.ref l0), some (.int l1), o2, o3]) (st' := [.int 6, .ref (gR h l0 0), .int 6, .ref (gR h l0 0)]) (h' := h) rfl ?_
  refine mX_ck (k' := 57) (ls' := [some (.ref l0), some (.int l1), o2, o3]) (st' := [.int (gI h (gR h l0 0) (ix (6 : Int32))), .int 6, .ref (gR h l0 0)]) (h' := h) rfl ?_
  refine mX_to 2 (k' := 59) (ls' := [some (.ref l0), some (.int l1), o2, o3]) (st' := [.int ((gI h (gR h l0 0) (ix (6 : Int32))) + 1), .int 6, .ref (gR h l0 0)]) (h' := h) rfl ?_
  refine mX_ck (k' := 60) (ls' := [some (.ref l0), some (.int l1), o2, o3]) (st' := []) (h' := (sI h (gR h l0 0) (ix (6 : Int32)) ((gI h (gR h l0 0) (ix (6 : Int32))) + 1))) rfl ?_
  refine lt_gen (X := fun h8 : MH => mX (mE mtab d) KX11_pass 60 [some (.ref l0), some (.int l1), o2, o3] [] h8) fun h8 => ?_
  exact mX_ret rfl
theorem D_X11_pass_31 (d : Nat) (h : MH) (l0 : Nat) (l1 : Int32) (s0 : Int32) : mX (mE mtab d) KX11_pass 31 [some (.ref l0), some (.int l1), none, none] [.int s0] h = ck (kd h l0 = 12) (ck (kd h l0 = 12) (lt_ (sI h l0 24 ((gI h l0 24) + 1)) fun h9 => mX (mE mtab d) KX11_pass 40 [some (.ref l0), some (.int l1), some (.int s0), some (.int 0)] [] h9)) := by
  refine mX_to 3 (k' := 34) (ls' := [some (.ref l0), some (.int l1), some (.int s0), none]) (st' := [.ref l0, .ref l0]) (h' := h) rfl ?_
  refine mX_ck (k' := 35) (ls' := [some (.ref l0), some (.int l1), some (.int s0), none]) (st' := [.int (gI h l0 24), .ref l0]) (h' := h) rfl ?_
  refine mX_to 2 (k' := 37) (ls' := [some (.ref l0), some (.int l1), some (.int s0), none]) (st' := [.int ((gI h l0 24) + 1), .ref l0]) (h' := h) rfl ?_
  refine mX_ck (k' := 38) (ls' := [some (.ref l0), some (.int l1), some (.int s0), none]) (st' := []) (h' := (sI h l0 24 ((gI h l0 24) + 1))) rfl ?_
  refine lt_gen (X := fun h9 : MH => mX (mE mtab d) KX11_pass 38 [some (.ref l0), some (.int l1), some (.int s0), none] [] h9) fun h9 => ?_
  refine mX_to 2 (k' := 40) (ls' := [some (.ref l0), some (.int l1), some (.int s0), some (.int 0)]) (st' := []) (h' := h9) rfl ?_
  rfl
theorem D_X11_pass_40 (d : Nat) (h : MH) (l0 : Nat) (l1 : Int32) (l2 : Int32) (l3 : Int32) : mX (mE mtab d) KX11_pass 40 [some (.ref l0), some (.int l1), some (.int l2), some (.int l3)] [] h = ck (kd h l0 = 12) (ck ((kd h (gR h l0 0) = 20 ∨ kd h (gR h l0 0) = 24) ∧ ib (0 : Int32) (ln h (gR h l0 0))) ((if l3 < (gI h (gR h l0 0) (ix (0 : Int32))) then ck (kd h l0 = 12) (cV (mE mtab d 198 [.ref l0, .int l3, .int l2] h) (fun h10 => mX (mE mtab d) KX11_pass 40 [some (.ref l0), some (.int l1), some (.int l2), some (.int (l3 + 1))] [] h10)) else mX (mE mtab d) KX11_pass 52 [some (.ref l0), some (.int l1), some (.int l2), some (.int l3)] [] h))) := by
  refine mX_to 2 (k' := 42) (ls' := [some (.ref l0), some (.int l1), some (.int l2), some (.int l3)]) (st' := [.ref l0, .int l3]) (h' := h) rfl ?_
  refine mX_ck (k' := 43) (ls' := [some (.ref l0), some (.int l1), some (.int l2), some (.int l3)]) (st' := [.ref (gR h l0 0), .int l3]) (h' := h) rfl ?_
  refine mX_to 1 (k' := 44) (ls' := [some (.ref l0), some (.int l1), some (.int l2), some (.int l3)]) (st' := [.int 0, .ref (gR h l0 0), .int l3]) (h' := h) rfl ?_
  refine mX_ck (k' := 45) (ls' := [some (.ref l0), some (.int l1), some (.int l2), some (.int l3)]) (st' := [.int (gI h (gR h l0 0) (ix (0 : Int32))), .int l3]) (h' := h) rfl ?_
  refine mX_br (t := 46) (f := 52) (ls' := [some (.ref l0), some (.int l1), some (.int l2), some (.int l3)]) (st' := []) (h' := h) rfl ?_ ?_
  · refine mX_to 3 (k' := 49) (ls' := [some (.ref l0), some (.int l1), some (.int l2), some (.int l3)]) (st' := [.int l2, .int l3, .ref l0]) (h' := h) rfl ?_
    refine mX_ckc (m := mcl (mE mtab d 198 [.ref l0, .int l3, .int l2] h) 0 50 [some (.ref l0), some (.int l1), some (.int l2), some (.int l3)] []) rfl ?_
    refine mk_cV ?_
    intro h10
    refine mX_to 2 (k' := 40) (ls' := [some (.ref l0), some (.int l1), some (.int l2), some (.int (l3 + 1))]) (st' := []) (h' := h10) rfl ?_
    rfl
  · rfl
theorem D_X11_pass (d : Nat) (h : MH) (a0 : Nat) : mE mtab (d + 1) 199 [.ref a0] h = ck (kd h a0 = 12) (cI (mE mtab d 195 [.ref a0, .int 9] h) (fun x2 h1 => ck (kd h1 a0 = 12) (ck ((kd h1 (gR h1 a0 0) = 20 ∨ kd h1 (gR h1 a0 0) = 24) ∧ ib (13 + x2) (ln h1 (gR h1 a0 0))) ((if (gI h1 (gR h1 a0 0) (ix (13 + x2))) < 9 then ck (kd h1 a0 = 12) (ck ((kd h1 (gR h1 a0 0) = 20 ∨ kd h1 (gR h1 a0 0) = 24) ∧ ib (13 + x2) (ln h1 (gR h1 a0 0))) (ck (kd h1 (gR h1 a0 0) = 20 ∧ ib (13 + x2) (ln h1 (gR h1 a0 0))) (lt_ (sI h1 (gR h1 a0 0) (ix (13 + x2)) ((gI h1 (gR h1 a0 0) (ix (13 + x2))) + 1)) fun h3 => mX (mE mtab d) KX11_pass 22 [some (.ref a0), some (.int x2), none, none] [] h3))) else mX (mE mtab d) KX11_pass 22 [some (.ref a0), some (.int x2), none, none] [] h1))))) := by
  refine mE_eq (q := (yX11_pass, cX11_pass, 4, none, KX11_pass)) (C := KX11_pass) (ls := [some (.ref a0), none, none, none]) rfl rfl rfl rfl ?_
  refine mX_to 2 (k' := 2) (ls' := [some (.ref a0), none, none, none]) (st' := [.int 9, .ref a0]) (h' := h) rfl ?_
  refine mX_ckc (m := mcl (mE mtab d 195 [.ref a0, .int 9] h) 1 3 [some (.ref a0), none, none, none] []) rfl ?_
  refine mk_cI ?_
  intro x2 h1
  refine mX_to 2 (k' := 5) (ls' := [some (.ref a0), some (.int x2), none, none]) (st' := [.ref a0]) (h' := h1) rfl ?_
  refine mX_ck (k' := 6) (ls' := [some (.ref a0), some (.int x2), none, none]) (st' := [.ref (gR h1 a0 0)]) (h' := h1) rfl ?_
  refine mX_to 3 (k' := 9) (ls' := [some (.ref a0), some (.int x2), none, none]) (st' := [.int (13 + x2), .ref (gR h1 a0 0)]) (h' := h1) rfl ?_
  refine mX_ck (k' := 10) (ls' := [some (.ref a0), some (.int x2), none, none]) (st' := [.int (gI h1 (gR h1 a0 0) (ix (13 + x2)))]) (h' := h1) rfl ?_
  refine mX_to 1 (k' := 11) (ls' := [some (.ref a0), some (.int x2), none, none]) (st' := [.int 9, .int (gI h1 (gR h1 a0 0) (ix (13 + x2)))]) (h' := h1) rfl ?_
  refine mX_br (t := 12) (f := 22) (ls' := [some (.ref a0), some (.int x2), none, none]) (st' := []) (h' := h1) rfl ?_ ?_
  · refine mX_to 1 (k' := 13) (ls' := [some (.ref a0), some (.int x2), none, none]) (st' := [.ref a0]) (h' := h1) rfl ?_
    refine mX_ck (k' := 14) (ls' := [some (.ref a0), some (.int x2), none, none]) (st' := [.ref (gR h1 a0 0)]) (h' := h1) rfl ?_
    refine mX_to 4 (k' := 18) (ls' := [some (.ref a0), some (.int x2), none, none]) (st' := [.int (13 + x2), .ref (gR h1 a0 0), .int (13 + x2), .ref (gR h1 a0 0)]) (h' := h1) rfl ?_
    refine mX_ck (k' := 19) (ls' := [some (.ref a0), some (.int x2), none, none]) (st' := [.int (gI h1 (gR h1 a0 0) (ix (13 + x2))), .int (13 + x2), .ref (gR h1 a0 0)]) (h' := h1) rfl ?_
    refine mX_to 2 (k' := 21) (ls' := [some (.ref a0), some (.int x2), none, none]) (st' := [.int ((gI h1 (gR h1 a0 0) (ix (13 + x2))) + 1), .int (13 + x2), .ref (gR h1 a0 0)]) (h' := h1) rfl ?_
    refine mX_ck (k' := 22) (ls' := [some (.ref a0), some (.int x2), none, none]) (st' := []) (h' := (sI h1 (gR h1 a0 0) (ix (13 + x2)) ((gI h1 (gR h1 a0 0) (ix (13 + x2))) + 1))) rfl ?_
    refine lt_gen (X := fun h3 : MH => mX (mE mtab d) KX11_pass 22 [some (.ref a0), some (.int x2), none, none] [] h3) fun h3 => ?_
    rfl
  · rfl
theorem D_X11_arePassed_5 (d : Nat) (h : MH) (l0 : Nat) (l1 : Int32) (l2 : Int32) : mX (mE mtab d) KX11_arePassed 5 [some (.ref l0), some (.int l1), some (.int l2)] [] h = (if l2 < l1 then ck (kd h l0 = 12) (ck ((kd h (gR h l0 0) = 20 ∨ kd h (gR h l0 0) = 24) ∧ ib (6 : Int32) (ln h (gR h l0 0))) ((if (gI h (gR h l0 0) (ix (6 : Int32))) = 9999 then some (.int 0, h) else ck (kd h l0 = 12) (cV (mE mtab d 175 [.ref l0] h) (fun h2 => ck (kd h2 l0 = 12) (cV (mE mtab d 199 [.ref l0] h2) (fun h3 => mX (mE mtab d) KX11_arePassed 5 [some (.ref l0), some (.int l1), some (.int (l2 + 1))] [] h3))))))) else some (.int 1, h)) := by
  refine mX_to 2 (k' := 7) (ls' := [some (.ref l0), some (.int l1), some (.int l2)]) (st' := [.int l1, .int l2]) (h' := h) rfl ?_
  refine mX_br (t := 8) (f := 22) (ls' := [some (.ref l0), some (.int l1), some (.int l2)]) (st' := []) (h' := h) rfl ?_ ?_
  · refine mX_to 1 (k' := 9) (ls' := [some (.ref l0), some (.int l1), some (.int l2)]) (st' := [.ref l0]) (h' := h) rfl ?_
    refine mX_ck (k' := 10) (ls' := [some (.ref l0), some (.int l1), some (.int l2)]) (st' := [.ref (gR h l0 0)]) (h' := h) rfl ?_
    refine mX_to 1 (k' := 11) (ls' := [some (.ref l0), some (.int l1), some (.int l2)]) (st' := [.int 6, .ref (gR h l0 0)]) (h' := h) rfl ?_
    refine mX_ck (k' := 12) (ls' := [some (.ref l0), some (.int l1), some (.int l2)]) (st' := [.int (gI h (gR h l0 0) (ix (6 : Int32)))]) (h' := h) rfl ?_
    refine mX_to 1 (k' := 13) (ls' := [some (.ref l0), some (.int l1), some (.int l2)]) (st' := [.int 9999, .int (gI h (gR h l0 0) (ix (6 : Int32)))]) (h' := h) rfl ?_
    refine mX_br (t := 14) (f := 16) (ls' := [some (.ref l0), some (.int l1), some (.int l2)]) (st' := []) (h' := h) rfl ?_ ?_
    · refine mX_to 1 (k' := 15) (ls' := [some (.ref l0), some (.int l1), some (.int l2)]) (st' := [.int 0]) (h' := h) rfl ?_
      exact mX_retb (by decide) rfl
    · refine mX_to 1 (k' := 17) (ls' := [some (.ref l0), some (.int l1), some (.int l2)]) (st' := [.ref l0]) (h' := h) rfl ?_
      refine mX_ckc (m := mcl (mE mtab d 175 [.ref l0] h) 0 18 [some (.ref l0), some (.int l1), some (.int l2)] []) rfl ?_
      refine mk_cV ?_
      intro h2
      refine mX_to 1 (k' := 19) (ls' := [some (.ref l0), some (.int l1), some (.int l2)]) (st' := [.ref l0]) (h' := h2) rfl ?_
      refine mX_ckc (m := mcl (mE mtab d 199 [.ref l0] h2) 0 20 [some (.ref l0), some (.int l1), some (.int l2)] []) rfl ?_
      refine mk_cV ?_
      intro h3
      refine mX_to 2 (k' := 5) (ls' := [some (.ref l0), some (.int l1), some (.int (l2 + 1))]) (st' := []) (h' := h3) rfl ?_
      rfl
  · refine mX_to 1 (k' := 23) (ls' := [some (.ref l0), some (.int l1), some (.int l2)]) (st' := [.int 1]) (h' := h) rfl ?_
    exact mX_retb (by decide) rfl
theorem D_X11_arePassed (d : Nat) (h : MH) (a0 : Nat) (a1 : Int32) : mE mtab (d + 1) 200 [.ref a0, .int a1] h = ck (kd h a0 = 12) (lt_ (sI h a0 24 0) fun h1 => mX (mE mtab d) KX11_arePassed 5 [some (.ref a0), some (.int a1), some (.int 0)] [] h1) := by
  refine mE_eq (q := (yX11_arePassed, cX11_arePassed, 3, (some .boolean), KX11_arePassed)) (C := KX11_arePassed) (ls := [some (.ref a0), some (.int a1), none]) rfl rfl rfl rfl ?_
  refine mX_to 2 (k' := 2) (ls' := [some (.ref a0), some (.int a1), none]) (st' := [.int 0, .ref a0]) (h' := h) rfl ?_
  refine mX_ck (k' := 3) (ls' := [some (.ref a0), some (.int a1), none]) (st' := []) (h' := (sI h a0 24 0)) rfl ?_
  refine lt_gen (X := fun h1 : MH => mX (mE mtab d) KX11_arePassed 3 [some (.ref a0), some (.int a1), none] [] h1) fun h1 => ?_
  refine mX_to 2 (k' := 5) (ls' := [some (.ref a0), some (.int a1), some (.int 0)]) (st' := []) (h' := h1) rfl ?_
  rfl
