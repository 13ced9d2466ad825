/-! EQUATIONS OF THE METHODS (written by wip/gen/dgen.py) -/
theorem D_X5_come (d : Nat) (h : MH) (a0 : Nat) (a1 : Nat) (a2 : Int32) (a3 : Int32) : mE mtab (d + 1) 234 [.ref a0, .ref a1, .int a2, .int a3] h = ck (kd h a0 = 6) ((if (gI h a0 2) < 6561 then ck (kd h a0 = 6) (ck (kd h (gR h a0 0) = 20 ∧ ib a2 (ln h (gR h a0 0))) (lt_ (sI h (gR h a0 0) (ix a2) a3) fun h1 => ck (kd h1 a0 = 6) (ck (kd h1 a0 = 6) (ck (kd h1 (gR h1 a0 1) = 20 ∧ ib (gI h1 a0 2) (ln h1 (gR h1 a0 1))) (lt_ (sI h1 (gR h1 a0 1) (ix (gI h1 a0 2)) a2) fun h2 => ck (kd h2 a0 = 6) (ck (kd h2 a0 = 6) (lt_ (sI h2 a0 2 ((gI h2 a0 2) + 1)) fun h3 => ck (kd h3 a0 = 6) ((if (gI h3 a0 3) = (-1) then ck (kd h3 a1 = 10) (cI (mE mtab d 233 [.ref a1] h3) (fun x5 h4 => (if x5 = 0 then some (.int 0, h4) else ck (kd h4 a0 = 6) (lt_ (sI h4 a0 3 a2) fun h6 => some (.int 0, h6))))) else some (.int 0, h3)))))))))) else some (.int 0, h))) := by
  refine mE_eq (q := (yX5_come, cX5_come, 4, none, KX5_come)) (C := KX5_come) (ls := [some (.ref a0), some (.ref a1), some (.int a2), some (.int a3)]) rfl rfl rfl rfl ?_
  refine mX_to 1 (k' := 1) (ls' := [some (.ref a0), some (.ref a1), some (.int a2), some (.int a3)]) (st' := [.ref a0]) (h' := h) rfl ?_
  refine mX_ck (k' := 2) (ls' := [some (.ref a0), some (.ref a1), some (.int a2), some (.int a3)]) (st' := [.int (gI h a0 2)]) (h' := h) rfl ?_
  refine mX_to 1 (k' := 3) (ls' := [some (.ref a0), some (.ref a1), some (.int a2), some (.int a3)]) (st' := [.int 6561, .int (gI h a0 2)]) (h' := h) rfl ?_
  refine mX_br (t := 5) (f := 4) (ls' := [some (.ref a0), some (.ref a1), some (.int a2), some (.int a3)]) (st' := []) (h' := h) rfl ?_ ?_
  · refine mX_to 1 (k' := 6) (ls' := [some (.ref a0), some (.ref a1), some (.int a2), some (.int a3)]) (st' := [.ref a0]) (h' := h) rfl ?_
    refine mX_ck (k' := 7) (ls' := [some (.ref a0), some (.ref a1), some (.int a2), some (.int a3)]) (st' := [.ref (gR h a0 0)]) (h' := h) rfl ?_
    refine mX_to 2 (k' := 9) (ls' := [some (.ref a0), some (.ref a1), some (.int a2), some (.int a3)]) (st' := [.int a3, .int a2, .ref (gR h a0 0)]) (h' := h) rfl ?_
    refine mX_ck (k' := 10) (ls' := [some (.ref a0), some (.ref a1), some (.int a2), some (.int a3)]) (st' := []) (h' := (sI h (gR h a0 0) (ix a2) a3)) rfl ?_
    refine lt_gen (X := fun h1 : MH => mX (mE mtab d) KX5_come 10 [some (.ref a0), some (.ref a1), some (.int a2), some (.int a3)] [] h1) fun h1 => ?_
    refine mX_to 1 (k' := 11) (ls' := [some (.ref a0), some (.ref a1), some (.int a2), some (.int a3)]) (st' := [.ref a0]) (h' := h1) rfl ?_
    refine mX_ck (k' := 12) (ls' := [some (.ref a0), some (.ref a1), some (.int a2), some (.int a3)]) (st' := [.ref (gR h1 a0 1)]) (h' := h1) rfl ?_
    refine mX_to 1 (k' := 13) (ls' := [some (.ref a0), some (.ref a1), some (.int a2), some (.int a3)]) (st' := [.ref a0, .ref (gR h1 a0 1)]) (h' := h1) rfl ?_
    refine mX_ck (k' := 14) (ls' := [some (.ref a0), some (.ref a1), some (.int a2), some (.int a3)]) (st' := [.int (gI h1 a0 2), .ref (gR h1 a0 1)]) (h' := h1) rfl ?_
    refine mX_to 1 (k' := 15) (ls' := [some (.ref a0), some (.ref a1), some (.int a2), some (.int a3)]) (st' := [.int a2, .int (gI h1 a0 2), .ref (gR h1 a0 1)]) (h' := h1) rfl ?_
    refine mX_ck (k' := 16) (ls' := [some (.ref a0), some (.ref a1), some (.int a2), some (.int a3)]) (st' := []) (h' := (sI h1 (gR h1 a0 1) (ix (gI h1 a0 2)) a2)) rfl ?_
    refine lt_gen (X := fun h2 : MH => mX (mE mtab d) KX5_come 16 [some (.ref a0), some (.ref a1), some (.int a2), some (.int a3)] [] h2) fun h2 => ?_
    refine mX_to 2 (k' := 18) (ls' := [some (.ref a0), some (.ref a1), some (.int a2), some (.int a3)]) (st' := [.ref a0, .ref a0]) (h' := h2) rfl ?_
    refine mX_ck (k' := 19) (ls' := [some (.ref a0), some (.ref a1), some (.int a2), some (.int a3)]) (st' := [.int (gI h2 a0 2), .ref a0]) (h' := h2) rfl ?_
    refine mX_to 2 (k' := 21) (ls' := [some (.ref a0), some (.ref a1), some (.int a2), some (.int a3)]) (st' := [.int ((gI h2 a0 2) + 1), .ref a0]) (h' := h2) rfl ?_
    refine mX_ck (k' := 22) (ls' := [some (.ref a0), some (.ref a1), some (.int a2), some (.int a3)]) (st' := []) (h' := (sI h2 a0 2 ((gI h2 a0 2) + 1))) rfl ?_
    refine lt_gen (X := fun h3 : MH => mX (mE mtab d) KX5_come 22 [some (.ref a0), some (.ref a1), some (.int a2), some (.int a3)] [] h3) fun h3 => ?_
    refine mX_to 1 (k' := 23) (ls' := [some (.ref a0), some (.ref a1), some (.int a2), some (.int a3)]) (st' := [.ref a0]) (h' := h3) rfl ?_
    refine mX_ck (k' := 24) (ls' := [some (.ref a0), some (.ref a1), some (.int a2), some (.int a3)]) (st' := [.int (gI h3 a0 3)]) (h' := h3) rfl ?_
    refine mX_to 1 (k' := 25) (ls' := [some (.ref a0), some (.ref a1), some (.int a2), some (.int a3)]) (st' := [.int (-1), .int (gI h3 a0 3)]) (h' := h3) rfl ?_
    refine mX_br (t := 26) (f := 32) (ls' := [some (.ref a0), some (.ref a1), some (.int a2), some (.int a3)]) (st' := []) (h' := h3) rfl ?_ ?_
    · refine mX_to 1 (k' := 27) (ls' := [some (.ref a0), some (.ref a1), some (.int a2), some (.int a3)]) (st' := [.ref a1]) (h' := h3) rfl ?_
      refine mX_ckc (m := mcl (mE mtab d 233 [.ref a1] h3) 1 28 [some (.ref a0), some (.ref a1), some (.int a2), some (.int a3)] []) rfl ?_
      refine mk_cI ?_
      intro x5 h4
      refine mX_br (t := 32) (f := 29) (ls' := [some (.ref a0), some (.ref a1), some (.int a2), some (.int a3)]) (st' := []) (h' := h4) rfl ?_ ?_
      · exact mX_ret rfl
      · refine mX_to 2 (k' := 31) (ls' := [some (.ref a0), some (.ref a1), some (.int a2), some (.int a3)]) (st' := [.int a2, .ref a0]) (h' := h4) rfl ?_
        refine mX_ck (k' := 32) (ls' := [some (.ref a0), some (.ref a1), some (.int a2), some (.int a3)]) (st' := []) (h' := (sI h4 a0 3 a2)) rfl ?_
        refine lt_gen (X := fun h6 : MH => mX (mE mtab d) KX5_come 32 [some (.ref a0), some (.ref a1), some (.int a2), some (.int a3)] [] h6) fun h6 => ?_
        exact mX_ret rfl
    · exact mX_ret rfl
  · exact mX_ret rfl
theorem D_X5_shifted_19 (d : Nat) (h : MH) (l0 : Int32) (l1 : Int32) (l2 : Int32) (l3 : Int32) (l4 : Int32) (s0 : Int32) (s1 : Int32) : mX (mE mtab d) KX5_shifted 19 [some (.int l0), some (.int l1), some (.int l2), some (.int l3), some (.int l4)] [.int s0, .int s1] h = (if s1 = s0 then some (.int (-1), h) else (if l3 = 0 then ck ((kd h 2 = 20 ∨ kd h 2 = 24) ∧ ib l2 (ln h 2)) (some (.int (l1 - (gI h 2 (ix l2))), h)) else ck ((kd h 2 = 20 ∨ kd h 2 = 24) ∧ ib l2 (ln h 2)) (some (.int (l1 + (gI h 2 (ix l2))), h)))) := by
  refine mX_br (t := 20) (f := 22) (ls' := [some (.int l0), some (.int l1), some (.int l2), some (.int l3), some (.int l4)]) (st' := []) (h' := h) rfl ?_ ?_
  · refine mX_to 1 (k' := 21) (ls' := [some (.int l0), some (.int l1), some (.int l2), some (.int l3), some (.int l4)]) (st' := [.int (-1)]) (h' := h) rfl ?_
    exact mX_reti rfl
  · refine mX_to 1 (k' := 23) (ls' := [some (.int l0), some (.int l1), some (.int l2), some (.int l3), some (.int l4)]) (st' := [.int l3]) (h' := h) rfl ?_
    refine mX_br (t := 30) (f := 24) (ls' := [some (.int l0), some (.int l1), some (.int l2), some (.int l3), some (.int l4)]) (st' := []) (h' := h) rfl ?_ ?_
    · refine mX_to 3 (k' := 33) (ls' := [some (.int l0), some (.int l1), some (.int l2), some (.int l3), some (.int l4)]) (st' := [.int l2, .ref 2, .int l1]) (h' := h) rfl ?_
      refine mX_ck (k' := 34) (ls' := [some (.int l0), some (.int l1), some (.int l2), some (.int l3), some (.int l4)]) (st' := [.int (gI h 2 (ix l2)), .int l1]) (h' := h) rfl ?_
      refine mX_to 1 (k' := 35) (ls' := [some (.int l0), some (.int l1), some (.int l2), some (.int l3), some (.int l4)]) (st' := [.int (l1 - (gI h 2 (ix l2)))]) (h' := h) rfl ?_
      exact mX_reti rfl
    · refine mX_to 3 (k' := 27) (ls' := [some (.int l0), some (.int l1), some (.int l2), some (.int l3), some (.int l4)]) (st' := [.int l2, .ref 2, .int l1]) (h' := h) rfl ?_
      refine mX_ck (k' := 28) (ls' := [some (.int l0), some (.int l1), some (.int l2), some (.int l3), some (.int l4)]) (st' := [.int (gI h 2 (ix l2)), .int l1]) (h' := h) rfl ?_
      refine mX_to 2 (k' := 35) (ls' := [some (.int l0), some (.int l1), some (.int l2), some (.int l3), some (.int l4)]) (st' := [.int (l1 + (gI h 2 (ix l2)))]) (h' := h) rfl ?_
      exact mX_reti rfl
theorem D_X5_shifted (d : Nat) (h : MH) (a0 : Int32) (a1 : Int32) (a2 : Int32) (a3 : Int32) : mE mtab (d + 1) 235 [.int a0, .int a1, .int a2, .int a3] h = (if a2 < a0 then ck ((kd h 2 = 20 ∨ kd h 2 = 24) ∧ ib a2 (ln h 2)) (ck (¬ (gI h 2 (ix a2)) = 0) (lt_ ((a1 / (gI h 2 (ix a2))) - (a1 / (gI h 2 (ix a2))) / 9 * 9) fun v1 => (if a3 = 0 then mX (mE mtab d) KX5_shifted 19 [some (.int a0), some (.int a1), some (.int a2), some (.int a3), some (.int v1)] [.int 0, .int v1] h else mX (mE mtab d) KX5_shifted 19 [some (.int a0), some (.int a1), some (.int a2), some (.int a3), some (.int v1)] [.int 8, .int v1] h))) else some (.int (-1), h)) := by
  refine mE_eq (q := (yX5_shifted, cX5_shifted, 5, (some .int), KX5_shifted)) (C := KX5_shifted) (ls := [some (.int a0), some (.int a1), some (.int a2), some (.int a3), none]) rfl rfl rfl rfl ?_
  refine mX_to 2 (k' := 2) (ls' := [some (.int a0), some (.int a1), some (.int a2), some (.int a3), none]) (st' := [.int a0, .int a2]) (h' := h) rfl ?_
  refine mX_br (t := 5) (f := 3) (ls' := [some (.int a0), some (.int a1), some (.int a2), some (.int a3), none]) (st' := []) (h' := h) rfl ?_ ?_
  · refine mX_to 3 (k' := 8) (ls' := [some (.int a0), some (.int a1), some (.int a2), some (.int a3), none]) (st' := [.int a2, .ref 2, .int a1]) (h' := h) rfl ?_
    refine mX_ck (k' := 9) (ls' := [some (.int a0), some (.int a1), some (.int a2), some (.int a3), none]) (st' := [.int (gI h 2 (ix a2)), .int a1]) (h' := h) rfl ?_
    refine mX_ck (k' := 10) (ls' := [some (.int a0), some (.int a1), some (.int a2), some (.int a3), none]) (st' := [.int (a1 / (gI h 2 (ix a2)))]) (h' := h) rfl ?_
    refine mX_to 1 (k' := 11) (ls' := [some (.int a0), some (.int a1), some (.int a2), some (.int a3), none]) (st' := [.int 9, .int (a1 / (gI h 2 (ix a2)))]) (h' := h) rfl ?_
    refine mX_ckt (c := ¬ (9 : Int32) = 0) (k' := 12) (ls' := [some (.int a0), some (.int a1), some (.int a2), some (.int a3), none]) (st' := [.int ((a1 / (gI h 2 (ix a2))) - (a1 / (gI h 2 (ix a2))) / 9 * 9)]) (h' := h) (by decide) rfl ?_
    refine lt_gen (X := fun v1 : Int32 => mX (mE mtab d) KX5_shifted 12 [some (.int a0), some (.int a1), some (.int a2), some (.int a3), none] [.int v1] h) fun v1 => ?_
    refine mX_to 3 (k' := 15) (ls' := [some (.int a0), some (.int a1), some (.int a2), some (.int a3), some (.int v1)]) (st' := [.int a3, .int v1]) (h' := h) rfl ?_
    refine mX_br (t := 18) (f := 16) (ls' := [some (.int a0), some (.int a1), some (.int a2), some (.int a3), some (.int v1)]) (st' := [.int v1]) (h' := h) rfl ?_ ?_
    · refine mX_to 1 (k' := 19) (ls' := [some (.int a0), some (.int a1), some (.int a2), some (.int a3), some (.int v1)]) (st' := [.int 0, .int v1]) (h' := h) rfl ?_
      rfl
    · refine mX_to 2 (k' := 19) (ls' := [some (.int a0), some (.int a1), some (.int a2), some (.int a3), some (.int v1)]) (st' := [.int 8, .int v1]) (h' := h) rfl ?_
      rfl
  · refine mX_to 1 (k' := 4) (ls' := [some (.int a0), some (.int a1), some (.int a2), some (.int a3), none]) (st' := [.int (-1)]) (h' := h) rfl ?_
    exact mX_reti rfl
theorem D_X5_leadsTo_16 (d : Nat) (h : MH) (l0 : Int32) (l1 : Int32) (l2 : Int32) (s0 : Int32) (s1 : Int32) (s2 : Int32) (s3 : Int32) : mX (mE mtab d) KX5_leadsTo 16 [some (.int l0), some (.int l1), some (.int l2), none, none, none, none] [.int s0, .int s1, .int s2, .int s3] h = cI (mE mtab d 235 [.int s3, .int s2, .int s1, .int s0] h) (fun x5 h4 => some (.int x5, h4)) := by
  refine mX_cI (o := mE mtab d 235 [.int s3, .int s2, .int s1, .int s0] h) (k' := 17) (ls' := [some (.int l0), some (.int l1), some (.int l2), none, none, none, none]) (st' := []) rfl ?_
  intro x5 h4
  exact mX_reti rfl
theorem D_X5_leadsTo_52 (d : Nat) (h : MH) (l0 : Int32) (l1 : Int32) (l2 : Int32) (l3 : Int32) (l4 : Int32) (l5 : Int32) (s0 : Int32) (s1 : Int32) (s2 : Int32) (s3 : Int32) : mX (mE mtab d) KX5_leadsTo 52 [some (.int l0), some (.int l1), some (.int l2), some (.int l3), some (.int l4), some (.int l5), none] [.int s0, .int s1, .int s2, .int s3] h = cI (mE mtab d 235 [.int s3, .int s2, .int s1, .int s0] h) (fun x7 h6 => (if x7 = (-1) then some (.int (-1), h6) else (if (l3 - l3 / 2 * 2) = 1 then mX (mE mtab d) KX5_leadsTo 70 [some (.int l0), some (.int l1), some (.int l2), some (.int l3), some (.int l4), some (.int l5), some (.int x7)] [.int 1, .int l5, .int x7, .int l0] h6 else mX (mE mtab d) KX5_leadsTo 70 [some (.int l0), some (.int l1), some (.int l2), some (.int l3), some (.int l4), some (.int l5), some (.int x7)] [.int 0, .int l5, .int x7, .int l0] h6))) := by
  refine mX_cI (o := mE mtab d 235 [.int s3, .int s2, .int s1, .int s0] h) (k' := 53) (ls' := [some (.int l0), some (.int l1), some (.int l2), some (.int l3), some (.int l4), some (.int l5), none]) (st' := []) rfl ?_
  intro x7 h6
  refine mX_to 3 (k' := 56) (ls' := [some (.int l0), some (.int l1), some (.int l2), some (.int l3), some (.int l4), some (.int l5), some (.int x7)]) (st' := [.int (-1), .int x7]) (h' := h6) rfl ?_
  refine mX_br (t := 57) (f := 59) (ls' := [some (.int l0), some (.int l1), some (.int l2), some (.int l3), some (.int l4), some (.int l5), some (.int x7)]) (st' := []) (h' := h6) rfl ?_ ?_
  · refine mX_to 2 (k' := 71) (ls' := [some (.int l0), some (.int l1), some (.int l2), some (.int l3), some (.int l4), some (.int l5), some (.int x7)]) (st' := [.int (-1)]) (h' := h6) rfl ?_
    exact mX_reti rfl
  · refine mX_to 5 (k' := 64) (ls' := [some (.int l0), some (.int l1), some (.int l2), some (.int l3), some (.int l4), some (.int l5), some (.int x7)]) (st' := [.int 2, .int l3, .int l5, .int x7, .int l0]) (h' := h6) rfl ?_
    refine mX_ckt (c := ¬ (2 : Int32) = 0) (k' := 65) (ls' := [some (.int l0), some (.int l1), some (.int l2), some (.int l3), some (.int l4), some (.int l5), some (.int x7)]) (st' := [.int (l3 - l3 / 2 * 2), .int l5, .int x7, .int l0]) (h' := h6) (by decide) rfl ?_
    refine mX_to 1 (k' := 66) (ls' := [some (.int l0), some (.int l1), some (.int l2), some (.int l3), some (.int l4), some (.int l5), some (.int x7)]) (st' := [.int 1, .int (l3 - l3 / 2 * 2), .int l5, .int x7, .int l0]) (h' := h6) rfl ?_
    refine mX_br (t := 67) (f := 69) (ls' := [some (.int l0), some (.int l1), some (.int l2), some (.int l3), some (.int l4), some (.int l5), some (.int x7)]) (st' := [.int l5, .int x7, .int l0]) (h' := h6) rfl ?_ ?_
    · refine mX_to 2 (k' := 70) (ls' := [some (.int l0), some (.int l1), some (.int l2), some (.int l3), some (.int l4), some (.int l5), some (.int x7)]) (st' := [.int 1, .int l5, .int x7, .int l0]) (h' := h6) rfl ?_
      rfl
    · refine mX_to 1 (k' := 70) (ls' := [some (.int l0), some (.int l1), some (.int l2), some (.int l3), some (.int l4), some (.int l5), some (.int x7)]) (st' := [.int 0, .int l5, .int x7, .int l0]) (h' := h6) rfl ?_
      rfl
theorem D_X5_leadsTo_70 (d : Nat) (h : MH) (l0 : Int32) (l1 : Int32) (l2 : Int32) (l3 : Int32) (l4 : Int32) (l5 : Int32) (l6 : Int32) (s0 : Int32) (s1 : Int32) (s2 : Int32) (s3 : Int32) : mX (mE mtab d) KX5_leadsTo 70 [some (.int l0), some (.int l1), some (.int l2), some (.int l3), some (.int l4), some (.int l5), some (.int l6)] [.int s0, .int s1, .int s2, .int s3] h = cI (mE mtab d 235 [.int s3, .int s2, .int s1, .int s0] h) (fun x9 h8 => some (.int x9, h8)) := by
  refine mX_cI (o := mE mtab d 235 [.int s3, .int s2, .int s1, .int s0] h) (k' := 71) (ls' := [some (.int l0), some (.int l1), some (.int l2), some (.int l3), some (.int l4), some (.int l5), some (.int l6)]) (st' := []) rfl ?_
  intro x9 h8
  exact mX_reti rfl
theorem D_X5_leadsTo (d : Nat) (h : MH) (a0 : Int32) (a1 : Int32) (a2 : Int32) : mE mtab (d + 1) 236 [.int a0, .int a1, .int a2] h = (if a2 < 8 then (if (a2 - a2 / 2 * 2) = 1 then mX (mE mtab d) KX5_leadsTo 16 [some (.int a0), some (.int a1), some (.int a2), none, none, none, none] [.int 1, .int (a2 / 2), .int a1, .int a0] h else mX (mE mtab d) KX5_leadsTo 16 [some (.int a0), some (.int a1), some (.int a2), none, none, none, none] [.int 0, .int (a2 / 2), .int a1, .int a0] h) else lt_ (a2 - 10) fun v1 => lt_ (v1 / 16) fun v2 => lt_ ((v1 / 2) - (v1 / 2) / 4 * 4) fun v3 => (if v1 < 0 then some (.int (-1), h) else (if v2 < v3 then (if ((v1 / 8) - (v1 / 8) / 2 * 2) = 1 then mX (mE mtab d) KX5_leadsTo 52 [some (.int a0), some (.int a1), some (.int a2), some (.int v1), some (.int v2), some (.int v3), none] [.int 1, .int v2, .int a1, .int a0] h else mX (mE mtab d) KX5_leadsTo 52 [some (.int a0), some (.int a1), some (.int a2), some (.int v1), some (.int v2), some (.int v3), none] [.int 0, .int v2, .int a1, .int a0] h) else some (.int (-1), h)))) := by
  refine mE_eq (q := (yX5_leadsTo, cX5_leadsTo, 7, (some .int), KX5_leadsTo)) (C := KX5_leadsTo) (ls := [some (.int a0), some (.int a1), some (.int a2), none, none, none, none]) rfl rfl rfl rfl ?_
  refine mX_to 2 (k' := 2) (ls' := [some (.int a0), some (.int a1), some (.int a2), none, none, none, none]) (st' := [.int 8, .int a2]) (h' := h) rfl ?_
  refine mX_br (t := 3) (f := 18) (ls' := [some (.int a0), some (.int a1), some (.int a2), none, none, none, none]) (st' := []) (h' := h) rfl ?_ ?_
  · refine mX_to 4 (k' := 7) (ls' := [some (.int a0), some (.int a1), some (.int a2), none, none, none, none]) (st' := [.int 2, .int a2, .int a1, .int a0]) (h' := h) rfl ?_
    refine mX_ckt (c := ¬ (2 : Int32) = 0) (k' := 8) (ls' := [some (.int a0), some (.int a1), some (.int a2), none, none, none, none]) (st' := [.int (a2 / 2), .int a1, .int a0]) (h' := h) (by decide) rfl ?_
    refine mX_to 2 (k' := 10) (ls' := [some (.int a0), some (.int a1), some (.int a2), none, none, none, none]) (st' := [.int 2, .int a2, .int (a2 / 2), .int a1, .int a0]) (h' := h) rfl ?_
    refine mX_ckt (c := ¬ (2 : Int32) = 0) (k' := 11) (ls' := [some (.int a0), some (.int a1), some (.int a2), none, none, none, none]) (st' := [.int (a2 - a2 / 2 * 2), .int (a2 / 2), .int a1, .int a0]) (h' := h) (by decide) rfl ?_
    refine mX_to 1 (k' := 12) (ls' := [some (.int a0), some (.int a1), some (.int a2), none, none, none, none]) (st' := [.int 1, .int (a2 - a2 / 2 * 2), .int (a2 / 2), .int a1, .int a0]) (h' := h) rfl ?_
    refine mX_br (t := 13) (f := 15) (ls' := [some (.int a0), some (.int a1), some (.int a2), none, none, none, none]) (st' := [.int (a2 / 2), .int a1, .int a0]) (h' := h) rfl ?_ ?_
    · refine mX_to 2 (k' := 16) (ls' := [some (.int a0), some (.int a1), some (.int a2), none, none, none, none]) (st' := [.int 1, .int (a2 / 2), .int a1, .int a0]) (h' := h) rfl ?_
      rfl
    · refine mX_to 1 (k' := 16) (ls' := [some (.int a0), some (.int a1), some (.int a2), none, none, none, none]) (st' := [.int 0, .int (a2 / 2), .int a1, .int a0]) (h' := h) rfl ?_
      rfl
  · refine mX_to 3 (k' := 21) (ls' := [some (.int a0), some (.int a1), some (.int a2), none, none, none, none]) (st' := [.int (a2 - 10)]) (h' := h) rfl ?_
    refine lt_gen (X := fun v1 : Int32 => mX (mE mtab d) KX5_leadsTo 21 [some (.int a0), some (.int a1), some (.int a2), none, none, none, none] [.int v1] h) fun v1 => ?_
    refine mX_to 3 (k' := 24) (ls' := [some (.int a0), some (.int a1), some (.int a2), some (.int v1), none, none, none]) (st' := [.int 16, .int v1]) (h' := h) rfl ?_
    refine mX_ckt (c := ¬ (16 : Int32) = 0) (k' := 25) (ls' := [some (.int a0), some (.int a1), some (.int a2), some (.int v1), none, none, none]) (st' := [.int (v1 / 16)]) (h' := h) (by decide) rfl ?_
    refine lt_gen (X := fun v2 : Int32 => mX (mE mtab d) KX5_leadsTo 25 [some (.int a0), some (.int a1), some (.int a2), some (.int v1), none, none, none] [.int v2] h) fun v2 => ?_
    refine mX_to 3 (k' := 28) (ls' := [some (.int a0), some (.int a1), some (.int a2), some (.int v1), some (.int v2), none, none]) (st' := [.int 2, .int v1]) (h' := h) rfl ?_
    refine mX_ckt (c := ¬ (2 : Int32) = 0) (k' := 29) (ls' := [some (.int a0), some (.int a1), some (.int a2), some (.int v1), some (.int v2), none, none]) (st' := [.int (v1 / 2)]) (h' := h) (by decide) rfl ?_
    refine mX_to 1 (k' := 30) (ls' := [some (.int a0), some (.int a1), some (.int a2), some (.int v1), some (.int v2), none, none]) (st' := [.int 4, .int (v1 / 2)]) (h' := h) rfl ?_
    refine mX_ckt (c := ¬ (4 : Int32) = 0) (k' := 31) (ls' := [some (.int a0), some (.int a1), some (.int a2), some (.int v1), some (.int v2), none, none]) (st' := [.int ((v1 / 2) - (v1 / 2) / 4 * 4)]) (h' := h) (by decide) rfl ?_
    refine lt_gen (X := fun v3 : Int32 => mX (mE mtab d) KX5_leadsTo 31 [some (.int a0), some (.int a1), some (.int a2), some (.int v1), some (.int v2), none, none] [.int v3] h) fun v3 => ?_
    refine mX_to 2 (k' := 33) (ls' := [some (.int a0), some (.int a1), some (.int a2), some (.int v1), some (.int v2), some (.int v3), none]) (st' := [.int v1]) (h' := h) rfl ?_
    refine mX_br (t := 37) (f := 34) (ls' := [some (.int a0), some (.int a1), some (.int a2), some (.int v1), some (.int v2), some (.int v3), none]) (st' := []) (h' := h) rfl ?_ ?_
    · refine mX_to 1 (k' := 38) (ls' := [some (.int a0), some (.int a1), some (.int a2), some (.int v1), some (.int v2), some (.int v3), none]) (st' := [.int (-1)]) (h' := h) rfl ?_
      exact mX_reti rfl
    · refine mX_to 2 (k' := 36) (ls' := [some (.int a0), some (.int a1), some (.int a2), some (.int v1), some (.int v2), some (.int v3), none]) (st' := [.int v3, .int v2]) (h' := h) rfl ?_
      refine mX_br (t := 39) (f := 37) (ls' := [some (.int a0), some (.int a1), some (.int a2), some (.int v1), some (.int v2), some (.int v3), none]) (st' := []) (h' := h) rfl ?_ ?_
      · refine mX_to 5 (k' := 44) (ls' := [some (.int a0), some (.int a1), some (.int a2), some (.int v1), some (.int v2), some (.int v3), none]) (st' := [.int 8, .int v1, .int v2, .int a1, .int a0]) (h' := h) rfl ?_
        refine mX_ckt (c := ¬ (8 : Int32) = 0) (k' := 45) (ls' := [some (.int a0), some (.int a1), some (.int a2), some (.int v1), some (.int v2), some (.int v3), none]) (st' := [.int (v1 / 8), .int v2, .int a1, .int a0]) (h' := h) (by decide) rfl ?_
        refine mX_to 1 (k' := 46) (ls' := [some (.int a0), some (.int a1), some (.int a2), some (.int v1), some (.int v2), some (.int v3), none]) (st' := [.int 2, .int (v1 / 8), .int v2, .int a1, .int a0]) (h' := h) rfl ?_
        refine mX_ckt (c := ¬ (2 : Int32) = 0) (k' := 47) (ls' := [some (.int a0), some (.int a1), some (.int a2), some (.int v1), some (.int v2), some (.int v3), none]) (st' := [.int ((v1 / 8) - (v1 / 8) / 2 * 2), .int v2, .int a1, .int a0]) (h' := h) (by decide) rfl ?_
        refine mX_to 1 (k' := 48) (ls' := [some (.int a0), some (.int a1), some (.int a2), some (.int v1), some (.int v2), some (.int v3), none]) (st' := [.int 1, .int ((v1 / 8) - (v1 / 8) / 2 * 2), .int v2, .int a1, .int a0]) (h' := h) rfl ?_
        refine mX_br (t := 49) (f := 51) (ls' := [some (.int a0), some (.int a1), some (.int a2), some (.int v1), some (.int v2), some (.int v3), none]) (st' := [.int v2, .int a1, .int a0]) (h' := h) rfl ?_ ?_
        · refine mX_to 2 (k' := 52) (ls' := [some (.int a0), some (.int a1), some (.int a2), some (.int v1), some (.int v2), some (.int v3), none]) (st' := [.int 1, .int v2, .int a1, .int a0]) (h' := h) rfl ?_
          rfl
        · refine mX_to 1 (k' := 52) (ls' := [some (.int a0), some (.int a1), some (.int a2), some (.int v1), some (.int v2), some (.int v3), none]) (st' := [.int 0, .int v2, .int a1, .int a0]) (h' := h) rfl ?_
          rfl
      · refine mX_to 1 (k' := 38) (ls' := [some (.int a0), some (.int a1), some (.int a2), some (.int v1), some (.int v2), some (.int v3), none]) (st' := [.int (-1)]) (h' := h) rfl ?_
        exact mX_reti rfl
theorem D_X9_standAs_2 (d : Nat) (h : MH) (l0 : Nat) (l1 : Int32) (l2 : Int32) : mX (mE mtab d) KX9_standAs 2 [some (.ref l0), some (.int l1), some (.int l2)] [] h = ck (kd h l0 = 10) ((if l2 < (gI h l0 0) then ck (kd h l0 = 10) (ck ((kd h 2 = 20 ∨ kd h 2 = 24) ∧ ib l2 (ln h 2)) (ck (¬ (gI h 2 (ix l2)) = 0) (ck (kd h (gR h l0 2) = 20 ∧ ib l2 (ln h (gR h l0 2))) (lt_ (sI h (gR h l0 2) (ix l2) ((l1 / (gI h 2 (ix l2))) - (l1 / (gI h 2 (ix l2))) / 9 * 9)) fun h1 => mX (mE mtab d) KX9_standAs 2 [some (.ref l0), some (.int l1), some (.int (l2 + 1))] [] h1)))) else some (.int 0, h))) := by
  refine mX_to 2 (k' := 4) (ls' := [some (.ref l0), some (.int l1), some (.int l2)]) (st' := [.ref l0, .int l2]) (h' := h) rfl ?_
  refine mX_ck (k' := 5) (ls' := [some (.ref l0), some (.int l1), some (.int l2)]) (st' := [.int (gI h l0 0), .int l2]) (h' := h) rfl ?_
  refine mX_br (t := 6) (f := 19) (ls' := [some (.ref l0), some (.int l1), some (.int l2)]) (st' := []) (h' := h) rfl ?_ ?_
  · refine mX_to 1 (k' := 7) (ls' := [some (.ref l0), some (.int l1), some (.int l2)]) (st' := [.ref l0]) (h' := h) rfl ?_
    refine mX_ck (k' := 8) (ls' := [some (.ref l0), some (.int l1), some (.int l2)]) (st' := [.ref (gR h l0 2)]) (h' := h) rfl ?_
    refine mX_to 4 (k' := 12) (ls' := [some (.ref l0), some (.int l1), some (.int l2)]) (st' := [.int l2, .ref 2, .int l1, .int l2, .ref (gR h l0 2)]) (h' := h) rfl ?_
    refine mX_ck (k' := 13) (ls' := [some (.ref l0), some (.int l1), some (.int l2)]) (st' := [.int (gI h 2 (ix l2)), .int l1, .int l2, .ref (gR h l0 2)]) (h' := h) rfl ?_
    refine mX_ck (k' := 14) (ls' := [some (.ref l0), some (.int l1), some (.int l2)]) (st' := [.int (l1 / (gI h 2 (ix l2))), .int l2, .ref (gR h l0 2)]) (h' := h) rfl ?_
    refine mX_to 1 (k' := 15) (ls' := [some (.ref l0), some (.int l1), some (.int l2)]) (st' := [.int 9, .int (l1 / (gI h 2 (ix l2))), .int l2, .ref (gR h l0 2)]) (h' := h) rfl ?_
    refine mX_ckt (c := ¬ (9 : Int32) = 0) (k' := 16) (ls' := [some (.ref l0), some (.int l1), some (.int l2)]) (st' := [.int ((l1 / (gI h 2 (ix l2))) - (l1 / (gI h 2 (ix l2))) / 9 * 9), .int l2, .ref (gR h l0 2)]) (h' := h) (by decide) rfl ?_
    refine mX_ck (k' := 17) (ls' := [some (.ref l0), some (.int l1), some (.int l2)]) (st' := []) (h' := (sI h (gR h l0 2) (ix l2) ((l1 / (gI h 2 (ix l2))) - (l1 / (gI h 2 (ix l2))) / 9 * 9))) rfl ?_
    refine lt_gen (X := fun h1 : MH => mX (mE mtab d) KX9_standAs 17 [some (.ref l0), some (.int l1), some (.int l2)] [] h1) fun h1 => ?_
    refine mX_to 2 (k' := 2) (ls' := [some (.ref l0), some (.int l1), some (.int (l2 + 1))]) (st' := []) (h' := h1) rfl ?_
    rfl
  · exact mX_ret rfl
theorem D_X9_standAs (d : Nat) (h : MH) (a0 : Nat) (a1 : Int32) : mE mtab (d + 1) 237 [.ref a0, .int a1] h = mX (mE mtab d) KX9_standAs 2 [some (.ref a0), some (.int a1), some (.int 0)] [] h := by
  refine mE_eq (q := (yX9_standAs, cX9_standAs, 3, none, KX9_standAs)) (C := KX9_standAs) (ls := [some (.ref a0), some (.int a1), none]) rfl rfl rfl rfl ?_
  refine mX_to 2 (k' := 2) (ls' := [some (.ref a0), some (.int a1), some (.int 0)]) (st' := []) (h' := h) rfl ?_
  rfl
theorem D_X5_expand_5 (d : Nat) (h : MH) (l0 : Nat) (l1 : Nat) (l2 : Int32) (l3 : Int32) (s0 : Int32) : mX (mE mtab d) KX5_expand 5 [some (.ref l0), some (.ref l1), some (.int l2), some (.int l3), none, none, none] [.int s0] h = mX (mE mtab d) KX5_expand 8 [some (.ref l0), some (.ref l1), some (.int l2), some (.int l3), some (.int s0), some (.int 0), none] [] h := by
  refine mX_to 3 (k' := 8) (ls' := [some (.ref l0), some (.ref l1), some (.int l2), some (.int l3), some (.int s0), some (.int 0), none]) (st' := []) (h' := h) rfl ?_
  rfl
theorem D_X5_expand_8 (d : Nat) (h : MH) (l0 : Nat) (l1 : Nat) (l2 : Int32) (l3 : Int32) (l4 : Int32) (l5 : Int32) (o6 : Option Value) : mX (mE mtab d) KX5_expand 8 [some (.ref l0), some (.ref l1), some (.int l2), some (.int l3), some (.int l4), some (.int l5), o6] [] h = (if l5 < l4 then ck (kd h l1 = 10) (cI (mE mtab d 236 [.int (gI h l1 0), .int l2, .int l5] h) (fun x2 h1 => (if x2 = (-1) then mX (mE mtab d) KX5_expand 47 [some (.ref l0), some (.ref l1), some (.int l2), some (.int l3), some (.int l4), some (.int l5), some (.int x2)] [] h1 else ck (kd h1 l0 = 6) (ck ((kd h1 (gR h1 l0 0) = 20 ∨ kd h1 (gR h1 l0 0) = 24) ∧ ib x2 (ln h1 (gR h1 l0 0))) ((if (gI h1 (gR h1 l0 0) (ix x2)) = (-1) then ck (kd h1 l1 = 10) (cV (mE mtab d 237 [.ref l1, .int x2] h1) (fun h3 => ck (kd h3 l1 = 10) (cI (mE mtab d 146 [.ref l1] h3) (fun x5 h4 => (if x5 = 0 then ck (kd h4 l0 = 6) (ck (kd h4 (gR h4 l0 0) = 20 ∧ ib x2 (ln h4 (gR h4 l0 0))) (lt_ (sI h4 (gR h4 l0 0) (ix x2) (-2)) fun h6 => mX (mE mtab d) KX5_expand 47 [some (.ref l0), some (.ref l1), some (.int l2), some (.int l3), some (.int l4), some (.int l5), some (.int x2)] [] h6)) else ck (kd h4 l0 = 6) (cV (mE mtab d 234 [.ref l0, .ref l1, .int x2, .int ((l2 * 64) + l5)] h4) (fun h7 => mX (mE mtab d) KX5_expand 47 [some (.ref l0), some (.ref l1), some (.int l2), some (.int l3), some (.int l4), some (.int l5), some (.int x2)] [] h7))))))) else mX (mE mtab d) KX5_expand 47 [some (.ref l0), some (.ref l1), some (.int l2), some (.int l3), some (.int l4), some (.int l5), some (.int x2)] [] h1)))))) else some (.int 0, h)) := by
  refine mX_to 2 (k' := 10) (ls' := [some (.ref l0), some (.ref l1), some (.int l2), some (.int l3), some (.int l4), some (.int l5), o6]) (st' := [.int l4, .int l5]) (h' := h) rfl ?_
  refine mX_br (t := 11) (f := 49) (ls' := [some (.ref l0), some (.ref l1), some (.int l2), some (.int l3), some (.int l4), some (.int l5), o6]) (st' := []) (h' := h) rfl ?_ ?_
  · refine mX_to 1 (k' := 12) (ls' := [some (.ref l0), some (.ref l1), some (.int l2), some (.int l3), some (.int l4), some (.int l5), o6]) (st' := [.ref l1]) (h' := h) rfl ?_
    refine mX_ck (k' := 13) (ls' := [some (.ref l0), some (.ref l1), some (.int l2), some (.int l3), some (.int l4), some (.int l5), o6]) (st' := [.int (gI h l1 0)]) (h' := h) rfl ?_
    refine mX_to 2 (k' := 15) (ls' := [some (.ref l0), some (.ref l1), some (.int l2), some (.int l3), some (.int l4), some (.int l5), o6]) (st' := [.int l5, .int l2, .int (gI h l1 0)]) (h' := h) rfl ?_
    refine mX_cI (o := mE mtab d 236 [.int (gI h l1 0), .int l2, .int l5] h) (k' := 16) (ls' := [some (.ref l0), some (.ref l1), some (.int l2), some (.int l3), some (.int l4), some (.int l5), o6]) (st' := []) rfl ?_
    intro x2 h1
    refine mX_to 3 (k' := 19) (ls' := [some (.ref l0), some (.ref l1), some (.int l2), some (.int l3), some (.int l4), some (.int l5), some (.int x2)]) (st' := [.int (-1), .int x2]) (h' := h1) rfl ?_
    refine mX_br (t := 47) (f := 20) (ls' := [some (.ref l0), some (.ref l1), some (.int l2), some (.int l3), some (.int l4), some (.int l5), some (.int x2)]) (st' := []) (h' := h1) rfl ?_ ?_
    · rfl
    · refine mX_to 1 (k' := 21) (ls' := [some (.ref l0), some (.ref l1), some (.int l2), some (.int l3), some (.int l4), some (.int l5), some (.int x2)]) (st' := [.ref l0]) (h' := h1) rfl ?_
      refine mX_ck (k' := 22) (ls' := [some (.ref l0), some (.ref l1), some (.int l2), some (.int l3), some (.int l4), some (.int l5), some (.int x2)]) (st' := [.ref (gR h1 l0 0)]) (h' := h1) rfl ?_
      refine mX_to 1 (k' := 23) (ls' := [some (.ref l0), some (.ref l1), some (.int l2), some (.int l3), some (.int l4), some (.int l5), some (.int x2)]) (st' := [.int x2, .ref (gR h1 l0 0)]) (h' := h1) rfl ?_
      refine mX_ck (k' := 24) (ls' := [some (.ref l0), some (.ref l1), some (.int l2), some (.int l3), some (.int l4), some (.int l5), some (.int x2)]) (st' := [.int (gI h1 (gR h1 l0 0) (ix x2))]) (h' := h1) rfl ?_
      refine mX_to 1 (k' := 25) (ls' := [some (.ref l0), some (.ref l1), some (.int l2), some (.int l3), some (.int l4), some (.int l5), some (.int x2)]) (st' := [.int (-1), .int (gI h1 (gR h1 l0 0) (ix x2))]) (h' := h1) rfl ?_
      refine mX_br (t := 26) (f := 47) (ls' := [some (.ref l0), some (.ref l1), some (.int l2), some (.int l3), some (.int l4), some (.int l5), some (.int x2)]) (st' := []) (h' := h1) rfl ?_ ?_
      · refine mX_to 2 (k' := 28) (ls' := [some (.ref l0), some (.ref l1), some (.int l2), some (.int l3), some (.int l4), some (.int l5), some (.int x2)]) (st' := [.int x2, .ref l1]) (h' := h1) rfl ?_
        refine mX_ckc (m := mcl (mE mtab d 237 [.ref l1, .int x2] h1) 0 29 [some (.ref l0), some (.ref l1), some (.int l2), some (.int l3), some (.int l4), some (.int l5), some (.int x2)] []) rfl ?_
        refine mk_cV ?_
        intro h3
        refine mX_to 1 (k' := 30) (ls' := [some (.ref l0), some (.ref l1), some (.int l2), some (.int l3), some (.int l4), some (.int l5), some (.int x2)]) (st' := [.ref l1]) (h' := h3) rfl ?_
        refine mX_ckc (m := mcl (mE mtab d 146 [.ref l1] h3) 1 31 [some (.ref l0), some (.ref l1), some (.int l2), some (.int l3), some (.int l4), some (.int l5), some (.int x2)] []) rfl ?_
        refine mk_cI ?_
        intro x5 h4
        refine mX_br (t := 42) (f := 32) (ls' := [some (.ref l0), some (.ref l1), some (.int l2), some (.int l3), some (.int l4), some (.int l5), some (.int x2)]) (st' := []) (h' := h4) rfl ?_ ?_
        · refine mX_to 1 (k' := 43) (ls' := [some (.ref l0), some (.ref l1), some (.int l2), some (.int l3), some (.int l4), some (.int l5), some (.int x2)]) (st' := [.ref l0]) (h' := h4) rfl ?_
          refine mX_ck (k' := 44) (ls' := [some (.ref l0), some (.ref l1), some (.int l2), some (.int l3), some (.int l4), some (.int l5), some (.int x2)]) (st' := [.ref (gR h4 l0 0)]) (h' := h4) rfl ?_
          refine mX_to 2 (k' := 46) (ls' := [some (.ref l0), some (.ref l1), some (.int l2), some (.int l3), some (.int l4), some (.int l5), some (.int x2)]) (st' := [.int (-2), .int x2, .ref (gR h4 l0 0)]) (h' := h4) rfl ?_
          refine mX_ck (k' := 47) (ls' := [some (.ref l0), some (.ref l1), some (.int l2), some (.int l3), some (.int l4), some (.int l5), some (.int x2)]) (st' := []) (h' := (sI h4 (gR h4 l0 0) (ix x2) (-2))) rfl ?_
          refine lt_gen (X := fun h6 : MH => mX (mE mtab d) KX5_expand 47 [some (.ref l0), some (.ref l1), some (.int l2), some (.int l3), some (.int l4), some (.int l5), some (.int x2)] [] h6) fun h6 => ?_
          rfl
        · refine mX_to 8 (k' := 40) (ls' := [some (.ref l0), some (.ref l1), some (.int l2), some (.int l3), some (.int l4), some (.int l5), some (.int x2)]) (st' := [.int ((l2 * 64) + l5), .int x2, .ref l1, .ref l0]) (h' := h4) rfl ?_
          refine mX_ckc (m := mcl (mE mtab d 234 [.ref l0, .ref l1, .int x2, .int ((l2 * 64) + l5)] h4) 0 41 [some (.ref l0), some (.ref l1), some (.int l2), some (.int l3), some (.int l4), some (.int l5), some (.int x2)] []) rfl ?_
          refine mk_cV ?_
          intro h7
          refine mX_to 1 (k' := 47) (ls' := [some (.ref l0), some (.ref l1), some (.int l2), some (.int l3), some (.int l4), some (.int l5), some (.int x2)]) (st' := []) (h' := h7) rfl ?_
          rfl
      · rfl
  · exact mX_ret rfl
theorem D_X5_expand_47 (d : Nat) (h : MH) (l0 : Nat) (l1 : Nat) (l2 : Int32) (l3 : Int32) (l4 : Int32) (l5 : Int32) (l6 : Int32) : mX (mE mtab d) KX5_expand 47 [some (.ref l0), some (.ref l1), some (.int l2), some (.int l3), some (.int l4), some (.int l5), some (.int l6)] [] h = mX (mE mtab d) KX5_expand 8 [some (.ref l0), some (.ref l1), some (.int l2), some (.int l3), some (.int l4), some (.int (l5 + 1)), some (.int l6)] [] h := by
  refine mX_to 2 (k' := 8) (ls' := [some (.ref l0), some (.ref l1), some (.int l2), some (.int l3), some (.int l4), some (.int (l5 + 1)), some (.int l6)]) (st' := []) (h' := h) rfl ?_
  rfl
theorem D_X5_expand (d : Nat) (h : MH) (a0 : Nat) (a1 : Nat) (a2 : Int32) (a3 : Int32) : mE mtab (d + 1) 238 [.ref a0, .ref a1, .int a2, .int a3] h = (if a3 = 0 then mX (mE mtab d) KX5_expand 5 [some (.ref a0), some (.ref a1), some (.int a2), some (.int a3), none, none, none] [.int 8] h else mX (mE mtab d) KX5_expand 5 [some (.ref a0), some (.ref a1), some (.int a2), some (.int a3), none, none, none] [.int 64] h) := by
  refine mE_eq (q := (yX5_expand, cX5_expand, 7, none, KX5_expand)) (C := KX5_expand) (ls := [some (.ref a0), some (.ref a1), some (.int a2), some (.int a3), none, none, none]) rfl rfl rfl rfl ?_
  refine mX_to 1 (k' := 1) (ls' := [some (.ref a0), some (.ref a1), some (.int a2), some (.int a3), none, none, none]) (st' := [.int a3]) (h' := h) rfl ?_
  refine mX_br (t := 4) (f := 2) (ls' := [some (.ref a0), some (.ref a1), some (.int a2), some (.int a3), none, none, none]) (st' := []) (h' := h) rfl ?_ ?_
  · refine mX_to 1 (k' := 5) (ls' := [some (.ref a0), some (.ref a1), some (.int a2), some (.int a3), none, none, none]) (st' := [.int 8]) (h' := h) rfl ?_
    rfl
  · refine mX_to 2 (k' := 5) (ls' := [some (.ref a0), some (.ref a1), some (.int a2), some (.int a3), none, none, none]) (st' := [.int 64]) (h' := h) rfl ?_
    rfl
theorem D_X5_explore_23 (d : Nat) (h : MH) (l0 : Nat) (l1 : Nat) (l2 : Int32) (l3 : Int32) (l4 : Int32) : mX (mE mtab d) KX5_explore 23 [some (.ref l0), some (.ref l1), some (.int l2), some (.int l3), some (.int l4)] [] h = (if l4 < 6561 then ck (kd h l0 = 6) ((if l4 < (gI h l0 2) then (if l3 = 0 then mX (mE mtab d) KX5_explore 36 [some (.ref l0), some (.ref l1), some (.int l2), some (.int l3), some (.int l4)] [] h else ck (kd h l0 = 6) ((if (gI h l0 3) = (-1) then mX (mE mtab d) KX5_explore 36 [some (.ref l0), some (.ref l1), some (.int l2), some (.int l3), some (.int l4)] [] h else some (.int 0, h)))) else some (.int 0, h))) else some (.int 0, h)) := by
  refine mX_to 2 (k' := 25) (ls' := [some (.ref l0), some (.ref l1), some (.int l2), some (.int l3), some (.int l4)]) (st' := [.int 6561, .int l4]) (h' := h) rfl ?_
  refine mX_br (t := 26) (f := 46) (ls' := [some (.ref l0), some (.ref l1), some (.int l2), some (.int l3), some (.int l4)]) (st' := []) (h' := h) rfl ?_ ?_
  · refine mX_to 2 (k' := 28) (ls' := [some (.ref l0), some (.ref l1), some (.int l2), some (.int l3), some (.int l4)]) (st' := [.ref l0, .int l4]) (h' := h) rfl ?_
    refine mX_ck (k' := 29) (ls' := [some (.ref l0), some (.ref l1), some (.int l2), some (.int l3), some (.int l4)]) (st' := [.int (gI h l0 2), .int l4]) (h' := h) rfl ?_
    refine mX_br (t := 30) (f := 46) (ls' := [some (.ref l0), some (.ref l1), some (.int l2), some (.int l3), some (.int l4)]) (st' := []) (h' := h) rfl ?_ ?_
    · refine mX_to 1 (k' := 31) (ls' := [some (.ref l0), some (.ref l1), some (.int l2), some (.int l3), some (.int l4)]) (st' := [.int l3]) (h' := h) rfl ?_
      refine mX_br (t := 36) (f := 32) (ls' := [some (.ref l0), some (.ref l1), some (.int l2), some (.int l3), some (.int l4)]) (st' := []) (h' := h) rfl ?_ ?_
      · rfl
      · refine mX_to 1 (k' := 33) (ls' := [some (.ref l0), some (.ref l1), some (.int l2), some (.int l3), some (.int l4)]) (st' := [.ref l0]) (h' := h) rfl ?_
        refine mX_ck (k' := 34) (ls' := [some (.ref l0), some (.ref l1), some (.int l2), some (.int l3), some (.int l4)]) (st' := [.int (gI h l0 3)]) (h' := h) rfl ?_
        refine mX_to 1 (k' := 35) (ls' := [some (.ref l0), some (.ref l1), some (.int l2), some (.int l3), some (.int l4)]) (st' := [.int (-1), .int (gI h l0 3)]) (h' := h) rfl ?_
        refine mX_br (t := 36) (f := 46) (ls' := [some (.ref l0), some (.ref l1), some (.int l2), some (.int l3), some (.int l4)]) (st' := []) (h' := h) rfl ?_ ?_
        · rfl
        · exact mX_ret rfl
    · exact mX_ret rfl
  · exact mX_ret rfl
theorem D_X5_explore_36 (d : Nat) (h : MH) (l0 : Nat) (l1 : Nat) (l2 : Int32) (l3 : Int32) (l4 : Int32) : mX (mE mtab d) KX5_explore 36 [some (.ref l0), some (.ref l1), some (.int l2), some (.int l3), some (.int l4)] [] h = ck (kd h l0 = 6) (ck ((kd h (gR h l0 1) = 20 ∨ kd h (gR h l0 1) = 24) ∧ ib l4 (ln h (gR h l0 1))) (ck (kd h l0 = 6) (cV (mE mtab d 238 [.ref l0, .ref l1, .int (gI h (gR h l0 1) (ix l4)), .int l2] h) (fun h7 => mX (mE mtab d) KX5_explore 23 [some (.ref l0), some (.ref l1), some (.int l2), some (.int l3), some (.int (l4 + 1))] [] h7)))) := by
  refine mX_to 3 (k' := 39) (ls' := [some (.ref l0), some (.ref l1), some (.int l2), some (.int l3), some (.int l4)]) (st' := [.ref l0, .ref l1, .ref l0]) (h' := h) rfl ?_
  refine mX_ck (k' := 40) (ls' := [some (.ref l0), some (.ref l1), some (.int l2), some (.int l3), some (.int l4)]) (st' := [.ref (gR h l0 1), .ref l1, .ref l0]) (h' := h) rfl ?_
  refine mX_to 1 (k' := 41) (ls' := [some (.ref l0), some (.ref l1), some (.int l2), some (.int l3), some (.int l4)]) (st' := [.int l4, .ref (gR h l0 1), .ref l1, .ref l0]) (h' := h) rfl ?_
  refine mX_ck (k' := 42) (ls' := [some (.ref l0), some (.ref l1), some (.int l2), some (.int l3), some (.int l4)]) (st' := [.int (gI h (gR h l0 1) (ix l4)), .ref l1, .ref l0]) (h' := h) rfl ?_
  refine mX_to 1 (k' := 43) (ls' := [some (.ref l0), some (.ref l1), some (.int l2), some (.int l3), some (.int l4)]) (st' := [.int l2, .int (gI h (gR h l0 1) (ix l4)), .ref l1, .ref l0]) (h' := h) rfl ?_
  refine mX_ckc (m := mcl (mE mtab d 238 [.ref l0, .ref l1, .int (gI h (gR h l0 1) (ix l4)), .int l2] h) 0 44 [some (.ref l0), some (.ref l1), some (.int l2), some (.int l3), some (.int l4)] []) rfl ?_
  refine mk_cV ?_
  intro h7
  refine mX_to 2 (k' := 23) (ls' := [some (.ref l0), some (.ref l1), some (.int l2), some (.int l3), some (.int (l4 + 1))]) (st' := []) (h' := h7) rfl ?_
  rfl
theorem D_X5_explore (d : Nat) (h : MH) (a0 : Nat) (a1 : Nat) (a2 : Int32) (a3 : Int32) : mE mtab (d + 1) 239 [.ref a0, .ref a1, .int a2, .int a3] h = ck (kd h a0 = 6) (ck (kd h a1 = 10) (ck ((kd h 2 = 20 ∨ kd h 2 = 24) ∧ ib (gI h a1 0) (ln h 2)) (cV (mE mtab d 231 [.ref (gR h a0 0), .int 0, .int (gI h 2 (ix (gI h a1 0))), .int (-1)] h) (fun h1 => ck (kd h1 a0 = 6) (lt_ (sI h1 a0 2 0) fun h2 => ck (kd h2 a0 = 6) (lt_ (sI h2 a0 3 (-1)) fun h3 => ck (kd h3 a1 = 10) (cI (mE mtab d 232 [.ref a1] h3) (fun x5 h4 => ck (kd h4 a0 = 6) (cV (mE mtab d 234 [.ref a0, .ref a1, .int x5, .int (-3)] h4) (fun h6 => mX (mE mtab d) KX5_explore 23 [some (.ref a0), some (.ref a1), some (.int a2), some (.int a3), some (.int 0)] [] h6)))))))))) := by
  refine mE_eq (q := (yX5_explore, cX5_explore, 5, none, KX5_explore)) (C := KX5_explore) (ls := [some (.ref a0), some (.ref a1), some (.int a2), some (.int a3), none]) rfl rfl rfl rfl ?_
  refine mX_to 1 (k' := 1) (ls' := [some (.ref a0), some (.ref a1), some (.int a2), some (.int a3), none]) (st' := [.ref a0]) (h' := h) rfl ?_
  refine mX_ck (k' := 2) (ls' := [some (.ref a0), some (.ref a1), some (.int a2), some (.int a3), none]) (st' := [.ref (gR h a0 0)]) (h' := h) rfl ?_
  refine mX_to 3 (k' := 5) (ls' := [some (.ref a0), some (.ref a1), some (.int a2), some (.int a3), none]) (st' := [.ref a1, .ref 2, .int 0, .ref (gR h a0 0)]) (h' := h) rfl ?_
  refine mX_ck (k' := 6) (ls' := [some (.ref a0), some (.ref a1), some (.int a2), some (.int a3), none]) (st' := [.int (gI h a1 0), .ref 2, .int 0, .ref (gR h a0 0)]) (h' := h) rfl ?_
  refine mX_ck (k' := 7) (ls' := [some (.ref a0), some (.ref a1), some (.int a2), some (.int a3), none]) (st' := [.int (gI h 2 (ix (gI h a1 0))), .int 0, .ref (gR h a0 0)]) (h' := h) rfl ?_
  refine mX_to 1 (k' := 8) (ls' := [some (.ref a0), some (.ref a1), some (.int a2), some (.int a3), none]) (st' := [.int (-1), .int (gI h 2 (ix (gI h a1 0))), .int 0, .ref (gR h a0 0)]) (h' := h) rfl ?_
  refine mX_cV (o := mE mtab d 231 [.ref (gR h a0 0), .int 0, .int (gI h 2 (ix (gI h a1 0))), .int (-1)] h) (k' := 9) (ls' := [some (.ref a0), some (.ref a1), some (.int a2), some (.int a3), none]) (st' := []) rfl ?_
  intro h1
  refine mX_to 2 (k' := 11) (ls' := [some (.ref a0), some (.ref a1), some (.int a2), some (.int a3), none]) (st' := [.int 0, .ref a0]) (h' := h1) rfl ?_
  refine mX_ck (k' := 12) (ls' := [some (.ref a0), some (.ref a1), some (.int a2), some (.int a3), none]) (st' := []) (h' := (sI h1 a0 2 0)) rfl ?_
  refine lt_gen (X := fun h2 : MH => mX (mE mtab d) KX5_explore 12 [some (.ref a0), some (.ref a1), some (.int a2), some (.int a3), none] [] h2) fun h2 => ?_
  refine mX_to 2 (k' := 14) (ls' := [some (.ref a0), some (.ref a1), some (.int a2), some (.int a3), none]) (st' := [.int (-1), .ref a0]) (h' := h2) rfl ?_
  refine mX_ck (k' := 15) (ls' := [some (.ref a0), some (.ref a1), some (.int a2), some (.int a3), none]) (st' := []) (h' := (sI h2 a0 3 (-1))) rfl ?_
  refine lt_gen (X := fun h3 : MH => mX (mE mtab d) KX5_explore 15 [some (.ref a0), some (.ref a1), some (.int a2), some (.int a3), none] [] h3) fun h3 => ?_
  refine mX_to 3 (k' := 18) (ls' := [some (.ref a0), some (.ref a1), some (.int a2), some (.int a3), none]) (st' := [.ref a1, .ref a1, .ref a0]) (h' := h3) rfl ?_
  refine mX_ckc (m := mcl (mE mtab d 232 [.ref a1] h3) 1 19 [some (.ref a0), some (.ref a1), some (.int a2), some (.int a3), none] [.ref a1, .ref a0]) rfl ?_
  refine mk_cI ?_
  intro x5 h4
  refine mX_to 1 (k' := 20) (ls' := [some (.ref a0), some (.ref a1), some (.int a2), some (.int a3), none]) (st' := [.int (-3), .int x5, .ref a1, .ref a0]) (h' := h4) rfl ?_
  refine mX_ckc (m := mcl (mE mtab d 234 [.ref a0, .ref a1, .int x5, .int (-3)] h4) 0 21 [some (.ref a0), some (.ref a1), some (.int a2), some (.int a3), none] []) rfl ?_
  refine mk_cV ?_
  intro h6
  refine mX_to 2 (k' := 23) (ls' := [some (.ref a0), some (.ref a1), some (.int a2), some (.int a3), some (.int 0)]) (st' := []) (h' := h6) rfl ?_
  rfl
theorem D_X5_goingsToGoals_13 (d : Nat) (h : MH) (l0 : Nat) (l1 : Int32) (l2 : Int32) (l3 : Int32) : mX (mE mtab d) KX5_goingsToGoals 13 [some (.ref l0), some (.int l1), some (.int l2), some (.int l3)] [] h = (if l3 < 6561 then ck (kd h l0 = 6) (ck ((kd h (gR h l0 0) = 20 ∨ kd h (gR h l0 0) = 24) ∧ ib l2 (ln h (gR h l0 0))) ((if (gI h (gR h l0 0) (ix l2)) = (-3) then some (.int l1, h) else ck (kd h l0 = 6) (ck ((kd h (gR h l0 0) = 20 ∨ kd h (gR h l0 0) = 24) ∧ ib l2 (ln h (gR h l0 0))) (lt_ ((gI h (gR h l0 0) (ix l2)) / 64) fun v2 => mX (mE mtab d) KX5_goingsToGoals 13 [some (.ref l0), some (.int (l1 + 1)), some (.int v2), some (.int (l3 + 1))] [] h))))) else some (.int l1, h)) := by
  refine mX_to 2 (k' := 15) (ls' := [some (.ref l0), some (.int l1), some (.int l2), some (.int l3)]) (st' := [.int 6561, .int l3]) (h' := h) rfl ?_
  refine mX_br (t := 16) (f := 32) (ls' := [some (.ref l0), some (.int l1), some (.int l2), some (.int l3)]) (st' := []) (h' := h) rfl ?_ ?_
  · refine mX_to 1 (k' := 17) (ls' := [some (.ref l0), some (.int l1), some (.int l2), some (.int l3)]) (st' := [.ref l0]) (h' := h) rfl ?_
    refine mX_ck (k' := 18) (ls' := [some (.ref l0), some (.int l1), some (.int l2), some (.int l3)]) (st' := [.ref (gR h l0 0)]) (h' := h) rfl ?_
    refine mX_to 1 (k' := 19) (ls' := [some (.ref l0), some (.int l1), some (.int l2), some (.int l3)]) (st' := [.int l2, .ref (gR h l0 0)]) (h' := h) rfl ?_
    refine mX_ck (k' := 20) (ls' := [some (.ref l0), some (.int l1), some (.int l2), some (.int l3)]) (st' := [.int (gI h (gR h l0 0) (ix l2))]) (h' := h) rfl ?_
    refine mX_to 1 (k' := 21) (ls' := [some (.ref l0), some (.int l1), some (.int l2), some (.int l3)]) (st' := [.int (-3), .int (gI h (gR h l0 0) (ix l2))]) (h' := h) rfl ?_
    refine mX_br (t := 32) (f := 22) (ls' := [some (.ref l0), some (.int l1), some (.int l2), some (.int l3)]) (st' := []) (h' := h) rfl ?_ ?_
    · refine mX_to 1 (k' := 33) (ls' := [some (.ref l0), some (.int l1), some (.int l2), some (.int l3)]) (st' := [.int l1]) (h' := h) rfl ?_
      exact mX_reti rfl
    · refine mX_to 1 (k' := 23) (ls' := [some (.ref l0), some (.int l1), some (.int l2), some (.int l3)]) (st' := [.ref l0]) (h' := h) rfl ?_
      refine mX_ck (k' := 24) (ls' := [some (.ref l0), some (.int l1), some (.int l2), some (.int l3)]) (st' := [.ref (gR h l0 0)]) (h' := h) rfl ?_
      refine mX_to 1 (k' := 25) (ls' := [some (.ref l0), some (.int l1), some (.int l2), some (.int l3)]) (st' := [.int l2, .ref (gR h l0 0)]) (h' := h) rfl ?_
      refine mX_ck (k' := 26) (ls' := [some (.ref l0), some (.int l1), some (.int l2), some (.int l3)]) (st' := [.int (gI h (gR h l0 0) (ix l2))]) (h' := h) rfl ?_
      refine mX_to 1 (k' := 27) (ls' := [some (.ref l0), some (.int l1), some (.int l2), some (.int l3)]) (st' := [.int 64, .int (gI h (gR h l0 0) (ix l2))]) (h' := h) rfl ?_
      refine mX_ckt (c := ¬ (64 : Int32) = 0) (k' := 28) (ls' := [some (.ref l0), some (.int l1), some (.int l2), some (.int l3)]) (st' := [.int ((gI h (gR h l0 0) (ix l2)) / 64)]) (h' := h) (by decide) rfl ?_
      refine lt_gen (X := fun v2 : Int32 => mX (mE mtab d) KX5_goingsToGoals 28 [some (.ref l0), some (.int l1), some (.int l2), some (.int l3)] [.int v2] h) fun v2 => ?_
      refine mX_to 4 (k' := 13) (ls' := [some (.ref l0), some (.int (l1 + 1)), some (.int v2), some (.int (l3 + 1))]) (st' := []) (h' := h) rfl ?_
      rfl
  · refine mX_to 1 (k' := 33) (ls' := [some (.ref l0), some (.int l1), some (.int l2), some (.int l3)]) (st' := [.int l1]) (h' := h) rfl ?_
    exact mX_reti rfl
theorem D_X5_goingsToGoals (d : Nat) (h : MH) (a0 : Nat) : mE mtab (d + 1) 240 [.ref a0] h = ck (kd h a0 = 6) ((if (gI h a0 3) = (-1) then some (.int (-2), h) else ck (kd h a0 = 6) (lt_ (gI h a0 3) fun v1 => mX (mE mtab d) KX5_goingsToGoals 13 [some (.ref a0), some (.int 0), some (.int v1), some (.int 0)] [] h))) := by
  refine mE_eq (q := (yX5_goingsToGoals, cX5_goingsToGoals, 4, (some .int), KX5_goingsToGoals)) (C := KX5_goingsToGoals) (ls := [some (.ref a0), none, none, none]) rfl rfl rfl rfl ?_
  refine mX_to 1 (k' := 1) (ls' := [some (.ref a0), none, none, none]) (st' := [.ref a0]) (h' := h) rfl ?_
  refine mX_ck (k' := 2) (ls' := [some (.ref a0), none, none, none]) (st' := [.int (gI h a0 3)]) (h' := h) rfl ?_
  refine mX_to 1 (k' := 3) (ls' := [some (.ref a0), none, none, none]) (st' := [.int (-1), .int (gI h a0 3)]) (h' := h) rfl ?_
  refine mX_br (t := 4) (f := 6) (ls' := [some (.ref a0), none, none, none]) (st' := []) (h' := h) rfl ?_ ?_
  · refine mX_to 1 (k' := 5) (ls' := [some (.ref a0), none, none, none]) (st' := [.int (-2)]) (h' := h) rfl ?_
    exact mX_reti rfl
  · refine mX_to 3 (k' := 9) (ls' := [some (.ref a0), some (.int 0), none, none]) (st' := [.ref a0]) (h' := h) rfl ?_
    refine mX_ck (k' := 10) (ls' := [some (.ref a0), some (.int 0), none, none]) (st' := [.int (gI h a0 3)]) (h' := h) rfl ?_
    refine lt_gen (X := fun v1 : Int32 => mX (mE mtab d) KX5_goingsToGoals 10 [some (.ref a0), some (.int 0), none, none] [.int v1] h) fun v1 => ?_
    refine mX_to 3 (k' := 13) (ls' := [some (.ref a0), some (.int 0), some (.int v1), some (.int 0)]) (st' := []) (h' := h) rfl ?_
    rfl
theorem D_X5_goingToGoals_19 (d : Nat) (h : MH) (l0 : Nat) (l1 : Int32) (l2 : Int32) (l3 : Int32) (l4 : Int32) : mX (mE mtab d) KX5_goingToGoals 19 [some (.ref l0), some (.int l1), some (.int l2), some (.int l3), some (.int l4)] [] h = (if l4 ≤ l1 then ck (kd h l0 = 6) (ck ((kd h (gR h l0 0) = 20 ∨ kd h (gR h l0 0) = 24) ∧ ib l3 (ln h (gR h l0 0))) (some (.int ((gI h (gR h l0 0) (ix l3)) - (gI h (gR h l0 0) (ix l3)) / 64 * 64), h))) else ck (kd h l0 = 6) (ck ((kd h (gR h l0 0) = 20 ∨ kd h (gR h l0 0) = 24) ∧ ib l3 (ln h (gR h l0 0))) (lt_ ((gI h (gR h l0 0) (ix l3)) / 64) fun v7 => mX (mE mtab d) KX5_goingToGoals 19 [some (.ref l0), some (.int l1), some (.int l2), some (.int v7), some (.int (l4 + (-1)))] [] h))) := by
  refine mX_to 2 (k' := 21) (ls' := [some (.ref l0), some (.int l1), some (.int l2), some (.int l3), some (.int l4)]) (st' := [.int l1, .int l4]) (h' := h) rfl ?_
  refine mX_br (t := 31) (f := 22) (ls' := [some (.ref l0), some (.int l1), some (.int l2), some (.int l3), some (.int l4)]) (st' := []) (h' := h) rfl ?_ ?_
  · refine mX_to 1 (k' := 32) (ls' := [some (.ref l0), some (.int l1), some (.int l2), some (.int l3), some (.int l4)]) (st' := [.ref l0]) (h' := h) rfl ?_
    refine mX_ck (k' := 33) (ls' := [some (.ref l0), some (.int l1), some (.int l2), some (.int l3), some (.int l4)]) (st' := [.ref (gR h l0 0)]) (h' := h) rfl ?_
    refine mX_to 1 (k' := 34) (ls' := [some (.ref l0), some (.int l1), some (.int l2), some (.int l3), some (.int l4)]) (st' := [.int l3, .ref (gR h l0 0)]) (h' := h) rfl ?_
    refine mX_ck (k' := 35) (ls' := [some (.ref l0), some (.int l1), some (.int l2), some (.int l3), some (.int l4)]) (st' := [.int (gI h (gR h l0 0) (ix l3))]) (h' := h) rfl ?_
    refine mX_to 1 (k' := 36) (ls' := [some (.ref l0), some (.int l1), some (.int l2), some (.int l3), some (.int l4)]) (st' := [.int 64, .int (gI h (gR h l0 0) (ix l3))]) (h' := h) rfl ?_
    refine mX_ckt (c := ¬ (64 : Int32) = 0) (k' := 37) (ls' := [some (.ref l0), some (.int l1), some (.int l2), some (.int l3), some (.int l4)]) (st' := [.int ((gI h (gR h l0 0) (ix l3)) - (gI h (gR h l0 0) (ix l3)) / 64 * 64)]) (h' := h) (by decide) rfl ?_
    exact mX_reti rfl
  · refine mX_to 1 (k' := 23) (ls' := [some (.ref l0), some (.int l1), some (.int l2), some (.int l3), some (.int l4)]) (st' := [.ref l0]) (h' := h) rfl ?_
    refine mX_ck (k' := 24) (ls' := [some (.ref l0), some (.int l1), some (.int l2), some (.int l3), some (.int l4)]) (st' := [.ref (gR h l0 0)]) (h' := h) rfl ?_
    refine mX_to 1 (k' := 25) (ls' := [some (.ref l0), some (.int l1), some (.int l2), some (.int l3), some (.int l4)]) (st' := [.int l3, .ref (gR h l0 0)]) (h' := h) rfl ?_
    refine mX_ck (k' := 26) (ls' := [some (.ref l0), some (.int l1), some (.int l2), some (.int l3), some (.int l4)]) (st' := [.int (gI h (gR h l0 0) (ix l3))]) (h' := h) rfl ?_
    refine mX_to 1 (k' := 27) (ls' := [some (.ref l0), some (.int l1), some (.int l2), some (.int l3), some (.int l4)]) (st' := [.int 64, .int (gI h (gR h l0 0) (ix l3))]) (h' := h) rfl ?_
    refine mX_ckt (c := ¬ (64 : Int32) = 0) (k' := 28) (ls' := [some (.ref l0), some (.int l1), some (.int l2), some (.int l3), some (.int l4)]) (st' := [.int ((gI h (gR h l0 0) (ix l3)) / 64)]) (h' := h) (by decide) rfl ?_
    refine lt_gen (X := fun v7 : Int32 => mX (mE mtab d) KX5_goingToGoals 28 [some (.ref l0), some (.int l1), some (.int l2), some (.int l3), some (.int l4)] [.int v7] h) fun v7 => ?_
    refine mX_to 3 (k' := 19) (ls' := [some (.ref l0), some (.int l1), some (.int l2), some (.int v7), some (.int (l4 + (-1)))]) (st' := []) (h' := h) rfl ?_
    rfl
theorem D_X5_goingToGoals (d : Nat) (h : MH) (a0 : Nat) (a1 : Int32) : mE mtab (d + 1) 241 [.ref a0, .int a1] h = ck (kd h a0 = 6) (cI (mE mtab d 240 [.ref a0] h) (fun x2 h1 => cI (mE mtab d 11 [.int a1, .int 0, .int (x2 - 1)] h1) (fun x4 h3 => (if x4 = 0 then some (.int (-2), h3) else ck (kd h3 a0 = 6) (lt_ (gI h3 a0 3) fun v5 => lt_ (x2 - 1) fun v6 => mX (mE mtab d) KX5_goingToGoals 19 [some (.ref a0), some (.int a1), some (.int x2), some (.int v5), some (.int v6)] [] h3))))) := by
  refine mE_eq (q := (yX5_goingToGoals, cX5_goingToGoals, 5, (some .int), KX5_goingToGoals)) (C := KX5_goingToGoals) (ls := [some (.ref a0), some (.int a1), none, none, none]) rfl rfl rfl rfl ?_
  refine mX_to 1 (k' := 1) (ls' := [some (.ref a0), some (.int a1), none, none, none]) (st' := [.ref a0]) (h' := h) rfl ?_
  refine mX_ckc (m := mcl (mE mtab d 240 [.ref a0] h) 1 2 [some (.ref a0), some (.int a1), none, none, none] []) rfl ?_
  refine mk_cI ?_
  intro x2 h1
  refine mX_to 6 (k' := 8) (ls' := [some (.ref a0), some (.int a1), some (.int x2), none, none]) (st' := [.int (x2 - 1), .int 0, .int a1]) (h' := h1) rfl ?_
  refine mX_cI (o := mE mtab d 11 [.int a1, .int 0, .int (x2 - 1)] h1) (k' := 9) (ls' := [some (.ref a0), some (.int a1), some (.int x2), none, none]) (st' := []) rfl ?_
  intro x4 h3
  refine mX_br (t := 10) (f := 12) (ls' := [some (.ref a0), some (.int a1), some (.int x2), none, none]) (st' := []) (h' := h3) rfl ?_ ?_
  · refine mX_to 1 (k' := 11) (ls' := [some (.ref a0), some (.int a1), some (.int x2), none, none]) (st' := [.int (-2)]) (h' := h3) rfl ?_
    exact mX_reti rfl
  · refine mX_to 1 (k' := 13) (ls' := [some (.ref a0), some (.int a1), some (.int x2), none, none]) (st' := [.ref a0]) (h' := h3) rfl ?_
    refine mX_ck (k' := 14) (ls' := [some (.ref a0), some (.int a1), some (.int x2), none, none]) (st' := [.int (gI h3 a0 3)]) (h' := h3) rfl ?_
    refine lt_gen (X := fun v5 : Int32 => mX (mE mtab d) KX5_goingToGoals 14 [some (.ref a0), some (.int a1), some (.int x2), none, none] [.int v5] h3) fun v5 => ?_
    refine mX_to 4 (k' := 18) (ls' := [some (.ref a0), some (.int a1), some (.int x2), some (.int v5), none]) (st' := [.int (x2 - 1)]) (h' := h3) rfl ?_
    refine lt_gen (X := fun v6 : Int32 => mX (mE mtab d) KX5_goingToGoals 18 [some (.ref a0), some (.int a1), some (.int x2), some (.int v5), none] [.int v6] h3) fun v6 => ?_
    refine mX_to 1 (k' := 19) (ls' := [some (.ref a0), some (.int a1), some (.int x2), some (.int v5), some (.int v6)]) (st' := []) (h' := h3) rfl ?_
    rfl
theorem D_X10_errands (d : Nat) (h : MH) (a0 : Nat) (a1 : Int32) (a2 : Int32) : mE mtab (d + 1) 242 [.ref a0, .int a1, .int a2] h = (if a2 < (-1) then some (.int (-2), h) else ck (kd h a0 = 11) (ck (kd h a0 = 11) (ck (kd h (gR h a0 0) = 1) (ck (kd h (gR h a0 2) = 10) (cV (mE mtab d 225 [.ref (gR h a0 2), .ref (gR h (gR h a0 0) 0)] h) (fun h1 => ck (kd h1 a0 = 11) (ck (kd h1 a0 = 11) (ck (kd h1 (gR h1 a0 5) = 6) (cV (mE mtab d 239 [.ref (gR h1 a0 5), .ref (gR h1 a0 2), .int a1, .int 1] h1) (fun h2 => (if a2 = (-1) then ck (kd h2 a0 = 11) (ck (kd h2 (gR h2 a0 5) = 6) (cI (mE mtab d 240 [.ref (gR h2 a0 5)] h2) (fun x4 h3 => some (.int x4, h3)))) else ck (kd h2 a0 = 11) (ck (kd h2 (gR h2 a0 5) = 6) (cI (mE mtab d 241 [.ref (gR h2 a0 5), .int a2] h2) (fun x6 h5 => some (.int x6, h5))))))))))))))) := by
  refine mE_eq (q := (yX10_errands, cX10_errands, 3, (some .int), KX10_errands)) (C := KX10_errands) (ls := [some (.ref a0), some (.int a1), some (.int a2)]) rfl rfl rfl rfl ?_
  refine mX_to 2 (k' := 2) (ls' := [some (.ref a0), some (.int a1), some (.int a2)]) (st' := [.int (-1), .int a2]) (h' := h) rfl ?_
  refine mX_br (t := 3) (f := 5) (ls' := [some (.ref a0), some (.int a1), some (.int a2)]) (st' := []) (h' := h) rfl ?_ ?_
  · refine mX_to 1 (k' := 4) (ls' := [some (.ref a0), some (.int a1), some (.int a2)]) (st' := [.int (-2)]) (h' := h) rfl ?_
    exact mX_reti rfl
  · refine mX_to 1 (k' := 6) (ls' := [some (.ref a0), some (.int a1), some (.int a2)]) (st' := [.ref a0]) (h' := h) rfl ?_
    refine mX_ck (k' := 7) (ls' := [some (.ref a0), some (.int a1), some (.int a2)]) (st' := [.ref (gR h a0 2)]) (h' := h) rfl ?_
    refine mX_to 1 (k' := 8) (ls' := [some (.ref a0), some (.int a1), some (.int a2)]) (st' := [.ref a0, .ref (gR h a0 2)]) (h' := h) rfl ?_
    refine mX_ck (k' := 9) (ls' := [some (.ref a0), some (.int a1), some (.int a2)]) (st' := [.ref (gR h a0 0), .ref (gR h a0 2)]) (h' := h) rfl ?_
    refine mX_ck (k' := 10) (ls' := [some (.ref a0), some (.int a1), some (.int a2)]) (st' := [.ref (gR h (gR h a0 0) 0), .ref (gR h a0 2)]) (h' := h) rfl ?_
    refine mX_ckc (m := mcl (mE mtab d 225 [.ref (gR h a0 2), .ref (gR h (gR h a0 0) 0)] h) 0 11 [some (.ref a0), some (.int a1), some (.int a2)] []) rfl ?_
    refine mk_cV ?_
    intro h1
    refine mX_to 1 (k' := 12) (ls' := [some (.ref a0), some (.int a1), some (.int a2)]) (st' := [.ref a0]) (h' := h1) rfl ?_
    refine mX_ck (k' := 13) (ls' := [some (.ref a0), some (.int a1), some (.int a2)]) (st' := [.ref (gR h1 a0 5)]) (h' := h1) rfl ?_
    refine mX_to 1 (k' := 14) (ls' := [some (.ref a0), some (.int a1), some (.int a2)]) (st' := [.ref a0, .ref (gR h1 a0 5)]) (h' := h1) rfl ?_
    refine mX_ck (k' := 15) (ls' := [some (.ref a0), some (.int a1), some (.int a2)]) (st' := [.ref (gR h1 a0 2), .ref (gR h1 a0 5)]) (h' := h1) rfl ?_
    refine mX_to 2 (k' := 17) (ls' := [some (.ref a0), some (.int a1), some (.int a2)]) (st' := [.int 1, .int a1, .ref (gR h1 a0 2), .ref (gR h1 a0 5)]) (h' := h1) rfl ?_
    refine mX_ckc (m := mcl (mE mtab d 239 [.ref (gR h1 a0 5), .ref (gR h1 a0 2), .int a1, .int 1] h1) 0 18 [some (.ref a0), some (.int a1), some (.int a2)] []) rfl ?_
    refine mk_cV ?_
    intro h2
    refine mX_to 2 (k' := 20) (ls' := [some (.ref a0), some (.int a1), some (.int a2)]) (st' := [.int (-1), .int a2]) (h' := h2) rfl ?_
    refine mX_br (t := 21) (f := 25) (ls' := [some (.ref a0), some (.int a1), some (.int a2)]) (st' := []) (h' := h2) rfl ?_ ?_
    · refine mX_to 1 (k' := 22) (ls' := [some (.ref a0), some (.int a1), some (.int a2)]) (st' := [.ref a0]) (h' := h2) rfl ?_
      refine mX_ck (k' := 23) (ls' := [some (.ref a0), some (.int a1), some (.int a2)]) (st' := [.ref (gR h2 a0 5)]) (h' := h2) rfl ?_
      refine mX_ckc (m := mcl (mE mtab d 240 [.ref (gR h2 a0 5)] h2) 1 24 [some (.ref a0), some (.int a1), some (.int a2)] []) rfl ?_
      refine mk_cI ?_
      intro x4 h3
      refine mX_to 1 (k' := 29) (ls' := [some (.ref a0), some (.int a1), some (.int a2)]) (st' := [.int x4]) (h' := h3) rfl ?_
      exact mX_reti rfl
    · refine mX_to 1 (k' := 26) (ls' := [some (.ref a0), some (.int a1), some (.int a2)]) (st' := [.ref a0]) (h' := h2) rfl ?_
      refine mX_ck (k' := 27) (ls' := [some (.ref a0), some (.int a1), some (.int a2)]) (st' := [.ref (gR h2 a0 5)]) (h' := h2) rfl ?_
      refine mX_to 1 (k' := 28) (ls' := [some (.ref a0), some (.int a1), some (.int a2)]) (st' := [.int a2, .ref (gR h2 a0 5)]) (h' := h2) rfl ?_
      refine mX_ckc (m := mcl (mE mtab d 241 [.ref (gR h2 a0 5), .int a2] h2) 1 29 [some (.ref a0), some (.int a1), some (.int a2)] []) rfl ?_
      refine mk_cI ?_
      intro x6 h5
      exact mX_reti rfl
theorem D_X11_standNow_9 (d : Nat) (h : MH) (l0 : Nat) (l1 : Int32) (l2 : Int32) : mX (mE mtab d) KX11_standNow 9 [some (.ref l0), some (.int l1), some (.int l2)] [] h = (if l2 < 0 then some (.int l1, h) else ck (kd h l0 = 12) (ck ((kd h (gR h l0 0) = 20 ∨ kd h (gR h l0 0) = 24) ∧ ib (9 + l2) (ln h (gR h l0 0))) (lt_ ((9 * l1) + (gI h (gR h l0 0) (ix (9 + l2)))) fun v2 => mX (mE mtab d) KX11_standNow 9 [some (.ref l0), some (.int v2), some (.int (l2 + (-1)))] [] h))) := by
  refine mX_to 1 (k' := 10) (ls' := [some (.ref l0), some (.int l1), some (.int l2)]) (st' := [.int l2]) (h' := h) rfl ?_
  refine mX_br (t := 24) (f := 11) (ls' := [some (.ref l0), some (.int l1), some (.int l2)]) (st' := []) (h' := h) rfl ?_ ?_
  · refine mX_to 1 (k' := 25) (ls' := [some (.ref l0), some (.int l1), some (.int l2)]) (st' := [.int l1]) (h' := h) rfl ?_
    exact mX_reti rfl
  · refine mX_to 4 (k' := 15) (ls' := [some (.ref l0), some (.int l1), some (.int l2)]) (st' := [.ref l0, .int (9 * l1)]) (h' := h) rfl ?_
    refine mX_ck (k' := 16) (ls' := [some (.ref l0), some (.int l1), some (.int l2)]) (st' := [.ref (gR h l0 0), .int (9 * l1)]) (h' := h) rfl ?_
    refine mX_to 3 (k' := 19) (ls' := [some (.ref l0), some (.int l1), some (.int l2)]) (st' := [.int (9 + l2), .ref (gR h l0 0), .int (9 * l1)]) (h' := h) rfl ?_
    refine mX_ck (k' := 20) (ls' := [some (.ref l0), some (.int l1), some (.int l2)]) (st' := [.int (gI h (gR h l0 0) (ix (9 + l2))), .int (9 * l1)]) (h' := h) rfl ?_
    refine mX_to 1 (k' := 21) (ls' := [some (.ref l0), some (.int l1), some (.int l2)]) (st' := [.int ((9 * l1) + (gI h (gR h l0 0) (ix (9 + l2))))]) (h' := h) rfl ?_
    refine lt_gen (X := fun v2 : Int32 => mX (mE mtab d) KX11_standNow 21 [some (.ref l0), some (.int l1), some (.int l2)] [.int v2] h) fun v2 => ?_
    refine mX_to 3 (k' := 9) (ls' := [some (.ref l0), some (.int v2), some (.int (l2 + (-1)))]) (st' := []) (h' := h) rfl ?_
    rfl
theorem D_X11_standNow (d : Nat) (h : MH) (a0 : Nat) : mE mtab (d + 1) 243 [.ref a0] h = ck (kd h a0 = 12) (ck ((kd h (gR h a0 0) = 20 ∨ kd h (gR h a0 0) = 24) ∧ ib (0 : Int32) (ln h (gR h a0 0))) (lt_ ((gI h (gR h a0 0) (ix (0 : Int32))) - 1) fun v1 => mX (mE mtab d) KX11_standNow 9 [some (.ref a0), some (.int 0), some (.int v1)] [] h)) := by
  refine mE_eq (q := (yX11_standNow, cX11_standNow, 3, (some .int), KX11_standNow)) (C := KX11_standNow) (ls := [some (.ref a0), none, none]) rfl rfl rfl rfl ?_
  refine mX_to 3 (k' := 3) (ls' := [some (.ref a0), some (.int 0), none]) (st' := [.ref a0]) (h' := h) rfl ?_
  refine mX_ck (k' := 4) (ls' := [some (.ref a0), some (.int 0), none]) (st' := [.ref (gR h a0 0)]) (h' := h) rfl ?_
  refine mX_to 1 (k' := 5) (ls' := [some (.ref a0), some (.int 0), none]) (st' := [.int 0, .ref (gR h a0 0)]) (h' := h) rfl ?_
  refine mX_ck (k' := 6) (ls' := [some (.ref a0), some (.int 0), none]) (st' := [.int (gI h (gR h a0 0) (ix (0 : Int32)))]) (h' := h) rfl ?_
  refine mX_to 2 (k' := 8) (ls' := [some (.ref a0), some (.int 0), none]) (st' := [.int ((gI h (gR h a0 0) (ix (0 : Int32))) - 1)]) (h' := h) rfl ?_
  refine lt_gen (X := fun v1 : Int32 => mX (mE mtab d) KX11_standNow 8 [some (.ref a0), some (.int 0), none] [.int v1] h) fun v1 => ?_
  refine mX_to 1 (k' := 9) (ls' := [some (.ref a0), some (.int 0), some (.int v1)]) (st' := []) (h' := h) rfl ?_
  rfl
theorem D_X11_nines_4 (d : Nat) (h : MH) (l0 : Int32) (l1 : Int32) (l2 : Int32) : mX (mE mtab d) KX11_nines 4 [some (.int l0), some (.int l1), some (.int l2)] [] h = (if l2 < l0 then lt_ (l1 * 9) fun v1 => mX (mE mtab d) KX11_nines 4 [some (.int l0), some (.int v1), some (.int (l2 + 1))] [] h else some (.int l1, h)) := by
  refine mX_to 2 (k' := 6) (ls' := [some (.int l0), some (.int l1), some (.int l2)]) (st' := [.int l0, .int l2]) (h' := h) rfl ?_
  refine mX_br (t := 7) (f := 13) (ls' := [some (.int l0), some (.int l1), some (.int l2)]) (st' := []) (h' := h) rfl ?_ ?_
  · refine mX_to 3 (k' := 10) (ls' := [some (.int l0), some (.int l1), some (.int l2)]) (st' := [.int (l1 * 9)]) (h' := h) rfl ?_
    refine lt_gen (X := fun v1 : Int32 => mX (mE mtab d) KX11_nines 10 [some (.int l0), some (.int l1), some (.int l2)] [.int v1] h) fun v1 => ?_
    refine mX_to 3 (k' := 4) (ls' := [some (.int l0), some (.int v1), some (.int (l2 + 1))]) (st' := []) (h' := h) rfl ?_
    rfl
  · refine mX_to 1 (k' := 14) (ls' := [some (.int l0), some (.int l1), some (.int l2)]) (st' := [.int l1]) (h' := h) rfl ?_
    exact mX_reti rfl
theorem D_X11_nines (d : Nat) (h : MH) (a0 : Int32) : mE mtab (d + 1) 244 [.int a0] h = mX (mE mtab d) KX11_nines 4 [some (.int a0), some (.int 1), some (.int 0)] [] h := by
  refine mE_eq (q := (yX11_nines, cX11_nines, 3, (some .int), KX11_nines)) (C := KX11_nines) (ls := [some (.int a0), none, none]) rfl rfl rfl rfl ?_
  refine mX_to 4 (k' := 4) (ls' := [some (.int a0), some (.int 1), some (.int 0)]) (st' := []) (h' := h) rfl ?_
  rfl
theorem D_X11_standSo_4 (d : Nat) (h : MH) (l0 : Nat) (l1 : Int32) (l2 : Int32) (l3 : Int32) : mX (mE mtab d) KX11_standSo 4 [some (.ref l0), some (.int l1), some (.int l2), some (.int l3)] [] h = ck (kd h l0 = 12) (ck ((kd h (gR h l0 0) = 20 ∨ kd h (gR h l0 0) = 24) ∧ ib (0 : Int32) (ln h (gR h l0 0))) ((if l3 < (gI h (gR h l0 0) (ix (0 : Int32))) then ck (kd h l0 = 12) (ck (kd h (gR h l0 0) = 20 ∧ ib (9 + l3) (ln h (gR h l0 0))) (lt_ (sI h (gR h l0 0) (ix (9 + l3)) (l2 - l2 / 9 * 9)) fun h1 => lt_ (l2 / 9) fun v2 => mX (mE mtab d) KX11_standSo 4 [some (.ref l0), some (.int l1), some (.int v2), some (.int (l3 + 1))] [] h1)) else some (.int 0, h)))) := by
  refine mX_to 2 (k' := 6) (ls' := [some (.ref l0), some (.int l1), some (.int l2), some (.int l3)]) (st' := [.ref l0, .int l3]) (h' := h) rfl ?_
  refine mX_ck (k' := 7) (ls' := [some (.ref l0), some (.int l1), some (.int l2), some (.int l3)]) (st' := [.ref (gR h l0 0), .int l3]) (h' := h) rfl ?_
  refine mX_to 1 (k' := 8) (ls' := [some (.ref l0), some (.int l1), some (.int l2), some (.int l3)]) (st' := [.int 0, .ref (gR h l0 0), .int l3]) (h' := h) rfl ?_
  refine mX_ck (k' := 9) (ls' := [some (.ref l0), some (.int l1), some (.int l2), some (.int l3)]) (st' := [.int (gI h (gR h l0 0) (ix (0 : Int32))), .int l3]) (h' := h) rfl ?_
  refine mX_br (t := 10) (f := 25) (ls' := [some (.ref l0), some (.int l1), some (.int l2), some (.int l3)]) (st' := []) (h' := h) rfl ?_ ?_
  · refine mX_to 1 (k' := 11) (ls' := [some (.ref l0), some (.int l1), some (.int l2), some (.int l3)]) (st' := [.ref l0]) (h' := h) rfl ?_
    refine mX_ck (k' := 12) (ls' := [some (.ref l0), some (.int l1), some (.int l2), some (.int l3)]) (st' := [.ref (gR h l0 0)]) (h' := h) rfl ?_
    refine mX_to 5 (k' := 17) (ls' := [some (.ref l0), some (.int l1), some (.int l2), some (.int l3)]) (st' := [.int 9, .int l2, .int (9 + l3), .ref (gR h l0 0)]) (h' := h) rfl ?_
    refine mX_ckt (c := ¬ (9 : Int32) = 0) (k' := 18) (ls' := [some (.ref l0), some (.int l1), some (.int l2), some (.int l3)]) (st' := [.int (l2 - l2 / 9 * 9), .int (9 + l3), .ref (gR h l0 0)]) (h' := h) (by decide) rfl ?_
    refine mX_ck (k' := 19) (ls' := [some (.ref l0), some (.int l1), some (.int l2), some (.int l3)]) (st' := []) (h' := (sI h (gR h l0 0) (ix (9 + l3)) (l2 - l2 / 9 * 9))) rfl ?_
    refine lt_gen (X := fun h1 : MH => mX (mE mtab d) KX11_standSo 19 [some (.ref l0), some (.int l1), some (.int l2), some (.int l3)] [] h1) fun h1 => ?_
    refine mX_to 2 (k' := 21) (ls' := [some (.ref l0), some (.int l1), some (.int l2), some (.int l3)]) (st' := [.int 9, .int l2]) (h' := h1) rfl ?_
    refine mX_ckt (c := ¬ (9 : Int32) = 0) (k' := 22) (ls' := [some (.ref l0), some (.int l1), some (.int l2), some (.int l3)]) (st' := [.int (l2 / 9)]) (h' := h1) (by decide) rfl ?_
    refine lt_gen (X := fun v2 : Int32 => mX (mE mtab d) KX11_standSo 22 [some (.ref l0), some (.int l1), some (.int l2), some (.int l3)] [.int v2] h1) fun v2 => ?_
    refine mX_to 3 (k' := 4) (ls' := [some (.ref l0), some (.int l1), some (.int v2), some (.int (l3 + 1))]) (st' := []) (h' := h1) rfl ?_
    rfl
  · exact mX_ret rfl
theorem D_X11_standSo (d : Nat) (h : MH) (a0 : Nat) (a1 : Int32) : mE mtab (d + 1) 245 [.ref a0, .int a1] h = mX (mE mtab d) KX11_standSo 4 [some (.ref a0), some (.int a1), some (.int a1), some (.int 0)] [] h := by
  refine mE_eq (q := (yX11_standSo, cX11_standSo, 4, none, KX11_standSo)) (C := KX11_standSo) (ls := [some (.ref a0), some (.int a1), none, none]) rfl rfl rfl rfl ?_
  refine mX_to 4 (k' := 4) (ls' := [some (.ref a0), some (.int a1), some (.int a1), some (.int 0)]) (st' := []) (h' := h) rfl ?_
  rfl
theorem D_X11_layGood_5 (d : Nat) (h : MH) (l0 : Nat) (l1 : Int32) (l2 : Int32) : mX (mE mtab d) KX11_layGood 5 [some (.ref l0), some (.int l1), some (.int l2)] [] h = ck (kd h l0 = 12) (ck ((kd h (gR h l0 0) = 20 ∨ kd h (gR h l0 0) = 24) ∧ ib (0 : Int32) (ln h (gR h l0 0))) (cI (mE mtab d 244 [.int (gI h (gR h l0 0) (ix (0 : Int32)))] h) (fun x4 h3 => (if l2 < x4 then ck (kd h3 l0 = 12) (cV (mE mtab d 245 [.ref l0, .int l2] h3) (fun h5 => ck (kd h5 l0 = 12) (ck (kd h5 l0 = 12) (cI (mE mtab d 173 [.ref l0] h5) (fun x7 h6 => (if x7 = 0 then mX (mE mtab d) KX11_layGood 24 [some (.ref l0), some (.int l1), some (.int l2)] [.int 1, .int l2, .ref (gR h5 l0 28)] h6 else mX (mE mtab d) KX11_layGood 24 [some (.ref l0), some (.int l1), some (.int l2)] [.int 0, .int l2, .ref (gR h5 l0 28)] h6)))))) else ck (kd h3 l0 = 12) (cV (mE mtab d 245 [.ref l0, .int l1] h3) (fun h8 => some (.int 0, h8))))))) := by
  refine mX_to 2 (k' := 7) (ls' := [some (.ref l0), some (.int l1), some (.int l2)]) (st' := [.ref l0, .int l2]) (h' := h) rfl ?_
  refine mX_ck (k' := 8) (ls' := [some (.ref l0), some (.int l1), some (.int l2)]) (st' := [.ref (gR h l0 0), .int l2]) (h' := h) rfl ?_
  refine mX_to 1 (k' := 9) (ls' := [some (.ref l0), some (.int l1), some (.int l2)]) (st' := [.int 0, .ref (gR h l0 0), .int l2]) (h' := h) rfl ?_
  refine mX_ck (k' := 10) (ls' := [some (.ref l0), some (.int l1), some (.int l2)]) (st' := [.int (gI h (gR h l0 0) (ix (0 : Int32))), .int l2]) (h' := h) rfl ?_
  refine mX_cI (o := mE mtab d 244 [.int (gI h (gR h l0 0) (ix (0 : Int32)))] h) (k' := 11) (ls' := [some (.ref l0), some (.int l1), some (.int l2)]) (st' := [.int l2]) rfl ?_
  intro x4 h3
  refine mX_br (t := 12) (f := 27) (ls' := [some (.ref l0), some (.int l1), some (.int l2)]) (st' := []) (h' := h3) rfl ?_ ?_
  · refine mX_to 2 (k' := 14) (ls' := [some (.ref l0), some (.int l1), some (.int l2)]) (st' := [.int l2, .ref l0]) (h' := h3) rfl ?_
    refine mX_ckc (m := mcl (mE mtab d 245 [.ref l0, .int l2] h3) 0 15 [some (.ref l0), some (.int l1), some (.int l2)] []) rfl ?_
    refine mk_cV ?_
    intro h5
    refine mX_to 1 (k' := 16) (ls' := [some (.ref l0), some (.int l1), some (.int l2)]) (st' := [.ref l0]) (h' := h5) rfl ?_
    refine mX_ck (k' := 17) (ls' := [some (.ref l0), some (.int l1), some (.int l2)]) (st' := [.ref (gR h5 l0 28)]) (h' := h5) rfl ?_
    refine mX_to 2 (k' := 19) (ls' := [some (.ref l0), some (.int l1), some (.int l2)]) (st' := [.ref l0, .int l2, .ref (gR h5 l0 28)]) (h' := h5) rfl ?_
    refine mX_ckc (m := mcl (mE mtab d 173 [.ref l0] h5) 1 20 [some (.ref l0), some (.int l1), some (.int l2)] [.int l2, .ref (gR h5 l0 28)]) rfl ?_
    refine mk_cI ?_
    intro x7 h6
    refine mX_br (t := 21) (f := 23) (ls' := [some (.ref l0), some (.int l1), some (.int l2)]) (st' := [.int l2, .ref (gR h5 l0 28)]) (h' := h6) rfl ?_ ?_
    · refine mX_to 2 (k' := 24) (ls' := [some (.ref l0), some (.int l1), some (.int l2)]) (st' := [.int 1, .int l2, .ref (gR h5 l0 28)]) (h' := h6) rfl ?_
      rfl
    · refine mX_to 1 (k' := 24) (ls' := [some (.ref l0), some (.int l1), some (.int l2)]) (st' := [.int 0, .int l2, .ref (gR h5 l0 28)]) (h' := h6) rfl ?_
      rfl
  · refine mX_to 2 (k' := 29) (ls' := [some (.ref l0), some (.int l1), some (.int l2)]) (st' := [.int l1, .ref l0]) (h' := h3) rfl ?_
    refine mX_ckc (m := mcl (mE mtab d 245 [.ref l0, .int l1] h3) 0 30 [some (.ref l0), some (.int l1), some (.int l2)] []) rfl ?_
    refine mk_cV ?_
    intro h8
    exact mX_ret rfl
theorem D_X11_layGood_24 (d : Nat) (h : MH) (l0 : Nat) (l1 : Int32) (l2 : Int32) (s0 : Int32) (s1 : Int32) (s2 : Nat) : mX (mE mtab d) KX11_layGood 24 [some (.ref l0), some (.int l1), some (.int l2)] [.int s0, .int s1, .ref s2] h = ck (kd h s2 = 22 ∧ ib s1 (ln h s2) ∧ (s0 = 0 ∨ s0 = 1)) (lt_ (sI h s2 (ix s1) s0) fun h9 => mX (mE mtab d) KX11_layGood 5 [some (.ref l0), some (.int l1), some (.int (l2 + 1))] [] h9) := by
  refine mX_ck (k' := 25) (ls' := [some (.ref l0), some (.int l1), some (.int l2)]) (st' := []) (h' := (sI h s2 (ix s1) s0)) rfl ?_
  refine lt_gen (X := fun h9 : MH => mX (mE mtab d) KX11_layGood 25 [some (.ref l0), some (.int l1), some (.int l2)] [] h9) fun h9 => ?_
  refine mX_to 2 (k' := 5) (ls' := [some (.ref l0), some (.int l1), some (.int (l2 + 1))]) (st' := []) (h' := h9) rfl ?_
  rfl
theorem D_X11_layGood (d : Nat) (h : MH) (a0 : Nat) : mE mtab (d + 1) 246 [.ref a0] h = ck (kd h a0 = 12) (cI (mE mtab d 243 [.ref a0] h) (fun x2 h1 => mX (mE mtab d) KX11_layGood 5 [some (.ref a0), some (.int x2), some (.int 0)] [] h1)) := by
  refine mE_eq (q := (yX11_layGood, cX11_layGood, 3, none, KX11_layGood)) (C := KX11_layGood) (ls := [some (.ref a0), none, none]) rfl rfl rfl rfl ?_
  refine mX_to 1 (k' := 1) (ls' := [some (.ref a0), none, none]) (st' := [.ref a0]) (h' := h) rfl ?_
  refine mX_ckc (m := mcl (mE mtab d 243 [.ref a0] h) 1 2 [some (.ref a0), none, none] []) rfl ?_
  refine mk_cI ?_
  intro x2 h1
  refine mX_to 3 (k' := 5) (ls' := [some (.ref a0), some (.int x2), some (.int 0)]) (st' := []) (h' := h1) rfl ?_
  rfl
