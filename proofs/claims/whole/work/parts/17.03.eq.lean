/-! EQUATIONS OF THE METHODS (written by wip/gen/dgen.py) -/
theorem D_X7_cutOne (d : Nat) (h : MH) (a0 : Nat) (a1 : Int32) : mE mtab (d + 1) 66 [.ref a0, .int a1] h = ck (kd h a0 = 8) (ck ((kd h (gR h a0 0) = 20 ∨ kd h (gR h a0 0) = 24) ∧ ib a1 (ln h (gR h a0 0))) (cI (mE mtab d 32 [.int (gI h (gR h a0 0) (ix a1))] h) (fun x2 h1 => (if x2 = 0 then ck (kd h1 a0 = 8) (ck ((kd h1 (gR h1 a0 0) = 20 ∨ kd h1 (gR h1 a0 0) = 24) ∧ ib a1 (ln h1 (gR h1 a0 0))) (cI (mE mtab d 35 [.int (gI h1 (gR h1 a0 0) (ix a1))] h1) (fun x4 h3 => (if x4 = 0 then ck (kd h3 a0 = 8) (cI (mE mtab d 65 [.ref a0, .int a1] h3) (fun x6 h5 => some (.int x6, h5))) else ck (kd h3 a0 = 8) (cI (mE mtab d 48 [.ref a0, .int a1] h3) (fun x8 h7 => some (.int x8, h7))))))) else ck (kd h1 a0 = 8) (cI (mE mtab d 34 [.ref a0, .int a1] h1) (fun x10 h9 => some (.int x10, h9))))))) := by
  refine mE_eq (q := (yX7_cutOne, cX7_cutOne, 2, (some .int), KX7_cutOne)) (C := KX7_cutOne) (ls := [some (.ref a0), some (.int a1)]) rfl rfl rfl rfl ?_
  refine mX_to 1 (k' := 1) (ls' := [some (.ref a0), some (.int a1)]) (st' := [.ref a0]) (h' := h) rfl ?_
  refine mX_ck (k' := 2) (ls' := [some (.ref a0), some (.int a1)]) (st' := [.ref (gR h a0 0)]) (h' := h) rfl ?_
  refine mX_to 1 (k' := 3) (ls' := [some (.ref a0), some (.int a1)]) (st' := [.int a1, .ref (gR h a0 0)]) (h' := h) rfl ?_
  refine mX_ck (k' := 4) (ls' := [some (.ref a0), some (.int a1)]) (st' := [.int (gI h (gR h a0 0) (ix a1))]) (h' := h) rfl ?_
  refine mX_cI (o := mE mtab d 32 [.int (gI h (gR h a0 0) (ix a1))] h) (k' := 5) (ls' := [some (.ref a0), some (.int a1)]) (st' := []) rfl ?_
  intro x2 h1
  refine mX_br (t := 10) (f := 6) (ls' := [some (.ref a0), some (.int a1)]) (st' := []) (h' := h1) rfl ?_ ?_
  · refine mX_to 1 (k' := 11) (ls' := [some (.ref a0), some (.int a1)]) (st' := [.ref a0]) (h' := h1) rfl ?_
    refine mX_ck (k' := 12) (ls' := [some (.ref a0), some (.int a1)]) (st' := [.ref (gR h1 a0 0)]) (h' := h1) rfl ?_
    refine mX_to 1 (k' := 13) (ls' := [some (.ref a0), some (.int a1)]) (st' := [.int a1, .ref (gR h1 a0 0)]) (h' := h1) rfl ?_
    refine mX_ck (k' := 14) (ls' := [some (.ref a0), some (.int a1)]) (st' := [.int (gI h1 (gR h1 a0 0) (ix a1))]) (h' := h1) rfl ?_
    refine mX_cI (o := mE mtab d 35 [.int (gI h1 (gR h1 a0 0) (ix a1))] h1) (k' := 15) (ls' := [some (.ref a0), some (.int a1)]) (st' := []) rfl ?_
    intro x4 h3
    refine mX_br (t := 20) (f := 16) (ls' := [some (.ref a0), some (.int a1)]) (st' := []) (h' := h3) rfl ?_ ?_
    · refine mX_to 2 (k' := 22) (ls' := [some (.ref a0), some (.int a1)]) (st' := [.int a1, .ref a0]) (h' := h3) rfl ?_
      refine mX_ckc (m := mcl (mE mtab d 65 [.ref a0, .int a1] h3) 1 23 [some (.ref a0), some (.int a1)] []) rfl ?_
      refine mk_cI ?_
      intro x6 h5
      exact mX_reti rfl
    · refine mX_to 2 (k' := 18) (ls' := [some (.ref a0), some (.int a1)]) (st' := [.int a1, .ref a0]) (h' := h3) rfl ?_
      refine mX_ckc (m := mcl (mE mtab d 48 [.ref a0, .int a1] h3) 1 19 [some (.ref a0), some (.int a1)] []) rfl ?_
      refine mk_cI ?_
      intro x8 h7
      refine mX_to 1 (k' := 23) (ls' := [some (.ref a0), some (.int a1)]) (st' := [.int x8]) (h' := h7) rfl ?_
      exact mX_reti rfl
  · refine mX_to 2 (k' := 8) (ls' := [some (.ref a0), some (.int a1)]) (st' := [.int a1, .ref a0]) (h' := h1) rfl ?_
    refine mX_ckc (m := mcl (mE mtab d 34 [.ref a0, .int a1] h1) 1 9 [some (.ref a0), some (.int a1)] []) rfl ?_
    refine mk_cI ?_
    intro x10 h9
    exact mX_reti rfl
theorem D_X7_cut_7 (d : Nat) (h : MH) (l0 : Nat) (l1 : Int32) (l2 : Int32) : mX (mE mtab d) KX7_cut 7 [some (.ref l0), some (.int l1), some (.int l2)] [] h = (if l2 < 300 then ck (kd h l0 = 8) ((if l1 < (gI h l0 1) then ck (kd h l0 = 8) (ck ((kd h (gR h l0 0) = 20 ∨ kd h (gR h l0 0) = 24) ∧ ib l1 (ln h (gR h l0 0))) (cI (mE mtab d 31 [.int (gI h (gR h l0 0) (ix l1))] h) (fun x3 h2 => (if x3 = 0 then ck (kd h2 l0 = 8) (cI (mE mtab d 66 [.ref l0, .int l1] h2) (fun x5 h4 => mX (mE mtab d) KX7_cut 27 [some (.ref l0), some (.int l1), some (.int l2)] [.int x5] h4)) else mX (mE mtab d) KX7_cut 27 [some (.ref l0), some (.int l1), some (.int l2)] [.int (l1 + 1)] h2)))) else mX (mE mtab d) KX7_cut 30 [some (.ref l0), some (.int l1), some (.int l2)] [] h)) else mX (mE mtab d) KX7_cut 30 [some (.ref l0), some (.int l1), some (.int l2)] [] h) := by
  refine mX_to 2 (k' := 9) (ls' := [some (.ref l0), some (.int l1), some (.int l2)]) (st' := [.int 300, .int l2]) (h' := h) rfl ?_
  refine mX_br (t := 10) (f := 30) (ls' := [some (.ref l0), some (.int l1), some (.int l2)]) (st' := []) (h' := h) rfl ?_ ?_
  · refine mX_to 2 (k' := 12) (ls' := [some (.ref l0), some (.int l1), some (.int l2)]) (st' := [.ref l0, .int l1]) (h' := h) rfl ?_
    refine mX_ck (k' := 13) (ls' := [some (.ref l0), some (.int l1), some (.int l2)]) (st' := [.int (gI h l0 1), .int l1]) (h' := h) rfl ?_
    refine mX_br (t := 14) (f := 30) (ls' := [some (.ref l0), some (.int l1), some (.int l2)]) (st' := []) (h' := h) rfl ?_ ?_
    · refine mX_to 1 (k' := 15) (ls' := [some (.ref l0), some (.int l1), some (.int l2)]) (st' := [.ref l0]) (h' := h) rfl ?_
      refine mX_ck (k' := 16) (ls' := [some (.ref l0), some (.int l1), some (.int l2)]) (st' := [.ref (gR h l0 0)]) (h' := h) rfl ?_
      refine mX_to 1 (k' := 17) (ls' := [some (.ref l0), some (.int l1), some (.int l2)]) (st' := [.int l1, .ref (gR h l0 0)]) (h' := h) rfl ?_
      refine mX_ck (k' := 18) (ls' := [some (.ref l0), some (.int l1), some (.int l2)]) (st' := [.int (gI h (gR h l0 0) (ix l1))]) (h' := h) rfl ?_
      refine mX_cI (o := mE mtab d 31 [.int (gI h (gR h l0 0) (ix l1))] h) (k' := 19) (ls' := [some (.ref l0), some (.int l1), some (.int l2)]) (st' := []) rfl ?_
      intro x3 h2
      refine mX_br (t := 24) (f := 20) (ls' := [some (.ref l0), some (.int l1), some (.int l2)]) (st' := []) (h' := h2) rfl ?_ ?_
      · refine mX_to 2 (k' := 26) (ls' := [some (.ref l0), some (.int l1), some (.int l2)]) (st' := [.int l1, .ref l0]) (h' := h2) rfl ?_
        refine mX_ckc (m := mcl (mE mtab d 66 [.ref l0, .int l1] h2) 1 27 [some (.ref l0), some (.int l1), some (.int l2)] []) rfl ?_
        refine mk_cI ?_
        intro x5 h4
        rfl
      · refine mX_to 4 (k' := 27) (ls' := [some (.ref l0), some (.int l1), some (.int l2)]) (st' := [.int (l1 + 1)]) (h' := h2) rfl ?_
        rfl
    · rfl
  · rfl
theorem D_X7_cut_27 (d : Nat) (h : MH) (l0 : Nat) (l1 : Int32) (l2 : Int32) (s0 : Int32) : mX (mE mtab d) KX7_cut 27 [some (.ref l0), some (.int l1), some (.int l2)] [.int s0] h = mX (mE mtab d) KX7_cut 7 [some (.ref l0), some (.int s0), some (.int (l2 + 1))] [] h := by
  refine mX_to 3 (k' := 7) (ls' := [some (.ref l0), some (.int s0), some (.int (l2 + 1))]) (st' := []) (h' := h) rfl ?_
  rfl
theorem D_X7_cut_30 (d : Nat) (h : MH) (l0 : Nat) (l1 : Int32) (l2 : Int32) : mX (mE mtab d) KX7_cut 30 [some (.ref l0), some (.int l1), some (.int l2)] [] h = ck (kd h l0 = 8) (ck (kd h l0 = 8) (cV (mE mtab d 33 [.ref l0, .int 259, .int (gI h l0 1), .int 0] h) (fun h7 => some (.int 0, h7)))) := by
  refine mX_to 3 (k' := 33) (ls' := [some (.ref l0), some (.int l1), some (.int l2)]) (st' := [.ref l0, .int 259, .ref l0]) (h' := h) rfl ?_
  refine mX_ck (k' := 34) (ls' := [some (.ref l0), some (.int l1), some (.int l2)]) (st' := [.int (gI h l0 1), .int 259, .ref l0]) (h' := h) rfl ?_
  refine mX_to 1 (k' := 35) (ls' := [some (.ref l0), some (.int l1), some (.int l2)]) (st' := [.int 0, .int (gI h l0 1), .int 259, .ref l0]) (h' := h) rfl ?_
  refine mX_ckc (m := mcl (mE mtab d 33 [.ref l0, .int 259, .int (gI h l0 1), .int 0] h) 0 36 [some (.ref l0), some (.int l1), some (.int l2)] []) rfl ?_
  refine mk_cV ?_
  intro h7
  exact mX_ret rfl
theorem D_X7_cut (d : Nat) (h : MH) (a0 : Nat) : mE mtab (d + 1) 67 [.ref a0] h = ck (kd h a0 = 8) (lt_ (sI h a0 5 0) fun h1 => mX (mE mtab d) KX7_cut 7 [some (.ref a0), some (.int 0), some (.int 0)] [] h1) := by
  refine mE_eq (q := (yX7_cut, cX7_cut, 3, none, KX7_cut)) (C := KX7_cut) (ls := [some (.ref a0), none, none]) rfl rfl rfl rfl ?_
  refine mX_to 2 (k' := 2) (ls' := [some (.ref a0), none, none]) (st' := [.int 0, .ref a0]) (h' := h) rfl ?_
  refine mX_ck (k' := 3) (ls' := [some (.ref a0), none, none]) (st' := []) (h' := (sI h a0 5 0)) rfl ?_
  refine lt_gen (X := fun h1 : MH => mX (mE mtab d) KX7_cut 3 [some (.ref a0), none, none] [] h1) fun h1 => ?_
  refine mX_to 4 (k' := 7) (ls' := [some (.ref a0), some (.int 0), some (.int 0)]) (st' := []) (h' := h1) rfl ?_
  rfl
theorem D_X4_kind (d : Nat) (h : MH) (a0 : Nat) : mE mtab (d + 1) 68 [.ref a0] h = ck (kd h a0 = 5) (ck (kd h (gR h a0 0) = 8) (ck (kd h a0 = 5) (ck ((kd h (gR h (gR h a0 0) 2) = 20 ∨ kd h (gR h (gR h a0 0) 2) = 24) ∧ ib (gI h a0 5) (ln h (gR h (gR h a0 0) 2))) (some (.int (gI h (gR h (gR h a0 0) 2) (ix (gI h a0 5))), h))))) := by
  refine mE_eq (q := (yX4_kind, cX4_kind, 1, (some .int), KX4_kind)) (C := KX4_kind) (ls := [some (.ref a0)]) rfl rfl rfl rfl ?_
  refine mX_to 1 (k' := 1) (ls' := [some (.ref a0)]) (st' := [.ref a0]) (h' := h) rfl ?_
  refine mX_ck (k' := 2) (ls' := [some (.ref a0)]) (st' := [.ref (gR h a0 0)]) (h' := h) rfl ?_
  refine mX_ck (k' := 3) (ls' := [some (.ref a0)]) (st' := [.ref (gR h (gR h a0 0) 2)]) (h' := h) rfl ?_
  refine mX_to 1 (k' := 4) (ls' := [some (.ref a0)]) (st' := [.ref a0, .ref (gR h (gR h a0 0) 2)]) (h' := h) rfl ?_
  refine mX_ck (k' := 5) (ls' := [some (.ref a0)]) (st' := [.int (gI h a0 5), .ref (gR h (gR h a0 0) 2)]) (h' := h) rfl ?_
  refine mX_ck (k' := 6) (ls' := [some (.ref a0)]) (st' := [.int (gI h (gR h (gR h a0 0) 2) (ix (gI h a0 5)))]) (h' := h) rfl ?_
  exact mX_reti rfl
theorem D_X4_refuse (d : Nat) (h : MH) (a0 : Nat) (a1 : Int32) : mE mtab (d + 1) 69 [.ref a0, .int a1] h = ck (kd h a0 = 5) (lt_ (sI h a0 11 a1) fun h1 => ck (kd h1 a0 = 5) (ck (kd h1 (gR h1 a0 0) = 8) (ck (kd h1 a0 = 5) (ck ((kd h1 (gR h1 (gR h1 a0 0) 3) = 20 ∨ kd h1 (gR h1 (gR h1 a0 0) 3) = 24) ∧ ib (gI h1 a0 5) (ln h1 (gR h1 (gR h1 a0 0) 3))) (ck (kd h1 a0 = 5) (lt_ (sI h1 a0 12 (gI h1 (gR h1 (gR h1 a0 0) 3) (ix (gI h1 a0 5)))) fun h2 => some (.int 0, h2))))))) := by
  refine mE_eq (q := (yX4_refuse, cX4_refuse, 2, (some .boolean), KX4_refuse)) (C := KX4_refuse) (ls := [some (.ref a0), some (.int a1)]) rfl rfl rfl rfl ?_
  refine mX_to 2 (k' := 2) (ls' := [some (.ref a0), some (.int a1)]) (st' := [.int a1, .ref a0]) (h' := h) rfl ?_
  refine mX_ck (k' := 3) (ls' := [some (.ref a0), some (.int a1)]) (st' := []) (h' := (sI h a0 11 a1)) rfl ?_
  refine lt_gen (X := fun h1 : MH => mX (mE mtab d) KX4_refuse 3 [some (.ref a0), some (.int a1)] [] h1) fun h1 => ?_
  refine mX_to 2 (k' := 5) (ls' := [some (.ref a0), some (.int a1)]) (st' := [.ref a0, .ref a0]) (h' := h1) rfl ?_
  refine mX_ck (k' := 6) (ls' := [some (.ref a0), some (.int a1)]) (st' := [.ref (gR h1 a0 0), .ref a0]) (h' := h1) rfl ?_
  refine mX_ck (k' := 7) (ls' := [some (.ref a0), some (.int a1)]) (st' := [.ref (gR h1 (gR h1 a0 0) 3), .ref a0]) (h' := h1) rfl ?_
  refine mX_to 1 (k' := 8) (ls' := [some (.ref a0), some (.int a1)]) (st' := [.ref a0, .ref (gR h1 (gR h1 a0 0) 3), .ref a0]) (h' := h1) rfl ?_
  refine mX_ck (k' := 9) (ls' := [some (.ref a0), some (.int a1)]) (st' := [.int (gI h1 a0 5), .ref (gR h1 (gR h1 a0 0) 3), .ref a0]) (h' := h1) rfl ?_
  refine mX_ck (k' := 10) (ls' := [some (.ref a0), some (.int a1)]) (st' := [.int (gI h1 (gR h1 (gR h1 a0 0) 3) (ix (gI h1 a0 5))), .ref a0]) (h' := h1) rfl ?_
  refine mX_ck (k' := 11) (ls' := [some (.ref a0), some (.int a1)]) (st' := []) (h' := (sI h1 a0 12 (gI h1 (gR h1 (gR h1 a0 0) 3) (ix (gI h1 a0 5))))) rfl ?_
  refine lt_gen (X := fun h2 : MH => mX (mE mtab d) KX4_refuse 11 [some (.ref a0), some (.int a1)] [] h2) fun h2 => ?_
  refine mX_to 1 (k' := 12) (ls' := [some (.ref a0), some (.int a1)]) (st' := [.int 0]) (h' := h2) rfl ?_
  exact mX_retb (by decide) rfl
theorem D_X4_advance (d : Nat) (h : MH) (a0 : Nat) : mE mtab (d + 1) 70 [.ref a0] h = ck (kd h a0 = 5) (ck (kd h a0 = 5) (ck (kd h (gR h a0 0) = 8) ((if ((gI h a0 5) + 1) < (gI h (gR h a0 0) 5) then ck (kd h a0 = 5) (ck (kd h a0 = 5) (lt_ (sI h a0 5 ((gI h a0 5) + 1)) fun h1 => some (.int 0, h1))) else some (.int 0, h))))) := by
  refine mE_eq (q := (yX4_advance, cX4_advance, 1, none, KX4_advance)) (C := KX4_advance) (ls := [some (.ref a0)]) rfl rfl rfl rfl ?_
  refine mX_to 1 (k' := 1) (ls' := [some (.ref a0)]) (st' := [.ref a0]) (h' := h) rfl ?_
  refine mX_ck (k' := 2) (ls' := [some (.ref a0)]) (st' := [.int (gI h a0 5)]) (h' := h) rfl ?_
  refine mX_to 3 (k' := 5) (ls' := [some (.ref a0)]) (st' := [.ref a0, .int ((gI h a0 5) + 1)]) (h' := h) rfl ?_
  refine mX_ck (k' := 6) (ls' := [some (.ref a0)]) (st' := [.ref (gR h a0 0), .int ((gI h a0 5) + 1)]) (h' := h) rfl ?_
  refine mX_ck (k' := 7) (ls' := [some (.ref a0)]) (st' := [.int (gI h (gR h a0 0) 5), .int ((gI h a0 5) + 1)]) (h' := h) rfl ?_
  refine mX_br (t := 8) (f := 14) (ls' := [some (.ref a0)]) (st' := []) (h' := h) rfl ?_ ?_
  · refine mX_to 2 (k' := 10) (ls' := [some (.ref a0)]) (st' := [.ref a0, .ref a0]) (h' := h) rfl ?_
    refine mX_ck (k' := 11) (ls' := [some (.ref a0)]) (st' := [.int (gI h a0 5), .ref a0]) (h' := h) rfl ?_
    refine mX_to 2 (k' := 13) (ls' := [some (.ref a0)]) (st' := [.int ((gI h a0 5) + 1), .ref a0]) (h' := h) rfl ?_
    refine mX_ck (k' := 14) (ls' := [some (.ref a0)]) (st' := []) (h' := (sI h a0 5 ((gI h a0 5) + 1))) rfl ?_
    refine lt_gen (X := fun h1 : MH => mX (mE mtab d) KX4_advance 14 [some (.ref a0)] [] h1) fun h1 => ?_
    exact mX_ret rfl
  · exact mX_ret rfl
theorem D_X4_emit_20 (d : Nat) (h : MH) (l0 : Nat) (l1 : Int32) (l2 : Int32) : mX (mE mtab d) KX4_emit 20 [some (.ref l0), some (.int l1), some (.int l2)] [] h = ck (kd h l0 = 5) (some (.int ((gI h l0 7) - 1), h)) := by
  refine mX_to 1 (k' := 21) (ls' := [some (.ref l0), some (.int l1), some (.int l2)]) (st' := [.ref l0]) (h' := h) rfl ?_
  refine mX_ck (k' := 22) (ls' := [some (.ref l0), some (.int l1), some (.int l2)]) (st' := [.int (gI h l0 7)]) (h' := h) rfl ?_
  refine mX_to 2 (k' := 24) (ls' := [some (.ref l0), some (.int l1), some (.int l2)]) (st' := [.int ((gI h l0 7) - 1)]) (h' := h) rfl ?_
  exact mX_reti rfl
theorem D_X4_emit (d : Nat) (h : MH) (a0 : Nat) (a1 : Int32) (a2 : Int32) : mE mtab (d + 1) 71 [.ref a0, .int a1, .int a2] h = ck (kd h a0 = 5) ((if (gI h a0 7) < 300 then ck (kd h a0 = 5) (ck (kd h a0 = 5) (ck (kd h (gR h a0 4) = 20 ∧ ib (gI h a0 7) (ln h (gR h a0 4))) (lt_ (sI h (gR h a0 4) (ix (gI h a0 7)) ((a2 <<< (5 &&& 31)) ||| a1)) fun h1 => ck (kd h1 a0 = 5) (ck (kd h1 a0 = 5) (lt_ (sI h1 a0 7 ((gI h1 a0 7) + 1)) fun h2 => mX (mE mtab d) KX4_emit 20 [some (.ref a0), some (.int a1), some (.int a2)] [] h2))))) else mX (mE mtab d) KX4_emit 20 [some (.ref a0), some (.int a1), some (.int a2)] [] h)) := by
  refine mE_eq (q := (yX4_emit, cX4_emit, 3, (some .int), KX4_emit)) (C := KX4_emit) (ls := [some (.ref a0), some (.int a1), some (.int a2)]) rfl rfl rfl rfl ?_
  refine mX_to 1 (k' := 1) (ls' := [some (.ref a0), some (.int a1), some (.int a2)]) (st' := [.ref a0]) (h' := h) rfl ?_
  refine mX_ck (k' := 2) (ls' := [some (.ref a0), some (.int a1), some (.int a2)]) (st' := [.int (gI h a0 7)]) (h' := h) rfl ?_
  refine mX_to 1 (k' := 3) (ls' := [some (.ref a0), some (.int a1), some (.int a2)]) (st' := [.int 300, .int (gI h a0 7)]) (h' := h) rfl ?_
  refine mX_br (t := 4) (f := 20) (ls' := [some (.ref a0), some (.int a1), some (.int a2)]) (st' := []) (h' := h) rfl ?_ ?_
  · refine mX_to 1 (k' := 5) (ls' := [some (.ref a0), some (.int a1), some (.int a2)]) (st' := [.ref a0]) (h' := h) rfl ?_
    refine mX_ck (k' := 6) (ls' := [some (.ref a0), some (.int a1), some (.int a2)]) (st' := [.ref (gR h a0 4)]) (h' := h) rfl ?_
    refine mX_to 1 (k' := 7) (ls' := [some (.ref a0), some (.int a1), some (.int a2)]) (st' := [.ref a0, .ref (gR h a0 4)]) (h' := h) rfl ?_
    refine mX_ck (k' := 8) (ls' := [some (.ref a0), some (.int a1), some (.int a2)]) (st' := [.int (gI h a0 7), .ref (gR h a0 4)]) (h' := h) rfl ?_
    refine mX_to 5 (k' := 13) (ls' := [some (.ref a0), some (.int a1), some (.int a2)]) (st' := [.int ((a2 <<< (5 &&& 31)) ||| a1), .int (gI h a0 7), .ref (gR h a0 4)]) (h' := h) rfl ?_
    refine mX_ck (k' := 14) (ls' := [some (.ref a0), some (.int a1), some (.int a2)]) (st' := []) (h' := (sI h (gR h a0 4) (ix (gI h a0 7)) ((a2 <<< (5 &&& 31)) ||| a1))) rfl ?_
    refine lt_gen (X := fun h1 : MH => mX (mE mtab d) KX4_emit 14 [some (.ref a0), some (.int a1), some (.int a2)] [] h1) fun h1 => ?_
    refine mX_to 2 (k' := 16) (ls' := [some (.ref a0), some (.int a1), some (.int a2)]) (st' := [.ref a0, .ref a0]) (h' := h1) rfl ?_
    refine mX_ck (k' := 17) (ls' := [some (.ref a0), some (.int a1), some (.int a2)]) (st' := [.int (gI h1 a0 7), .ref a0]) (h' := h1) rfl ?_
    refine mX_to 2 (k' := 19) (ls' := [some (.ref a0), some (.int a1), some (.int a2)]) (st' := [.int ((gI h1 a0 7) + 1), .ref a0]) (h' := h1) rfl ?_
    refine mX_ck (k' := 20) (ls' := [some (.ref a0), some (.int a1), some (.int a2)]) (st' := []) (h' := (sI h1 a0 7 ((gI h1 a0 7) + 1))) rfl ?_
    refine lt_gen (X := fun h2 : MH => mX (mE mtab d) KX4_emit 20 [some (.ref a0), some (.int a1), some (.int a2)] [] h2) fun h2 => ?_
    rfl
  · rfl
theorem D_X4_numeral (d : Nat) (h : MH) (a0 : Nat) : mE mtab (d + 1) 72 [.ref a0] h = ck (kd h a0 = 5) (ck (kd h (gR h a0 0) = 8) (ck (kd h a0 = 5) (ck ((kd h (gR h (gR h a0 0) 4) = 20 ∨ kd h (gR h (gR h a0 0) 4) = 24) ∧ ib (gI h a0 5) (ln h (gR h (gR h a0 0) 4))) ((if (gI h (gR h (gR h a0 0) 4) (ix (gI h a0 5))) ≤ 9999 then ck (kd h a0 = 5) (ck (kd h (gR h a0 0) = 8) (ck (kd h a0 = 5) (ck ((kd h (gR h (gR h a0 0) 4) = 20 ∨ kd h (gR h (gR h a0 0) 4) = 24) ∧ ib (gI h a0 5) (ln h (gR h (gR h a0 0) 4))) (ck (kd h a0 = 5) (cI (mE mtab d 71 [.ref a0, .int 0, .int (gI h (gR h (gR h a0 0) 4) (ix (gI h a0 5)))] h) (fun x2 h1 => ck (kd h1 a0 = 5) (cV (mE mtab d 70 [.ref a0] h1) (fun h3 => some (.int 1, h3))))))))) else ck (kd h a0 = 5) (cI (mE mtab d 69 [.ref a0, .int 2] h) (fun x5 h4 => ck (mrt 1 x5) (some (.int x5, h4))))))))) := by
  refine mE_eq (q := (yX4_numeral, cX4_numeral, 1, (some .boolean), KX4_numeral)) (C := KX4_numeral) (ls := [some (.ref a0)]) rfl rfl rfl rfl ?_
  refine mX_to 1 (k' := 1) (ls' := [some (.ref a0)]) (st' := [.ref a0]) (h' := h) rfl ?_
  refine mX_ck (k' := 2) (ls' := [some (.ref a0)]) (st' := [.ref (gR h a0 0)]) (h' := h) rfl ?_
  refine mX_ck (k' := 3) (ls' := [some (.ref a0)]) (st' := [.ref (gR h (gR h a0 0) 4)]) (h' := h) rfl ?_
  refine mX_to 1 (k' := 4) (ls' := [some (.ref a0)]) (st' := [.ref a0, .ref (gR h (gR h a0 0) 4)]) (h' := h) rfl ?_
  refine mX_ck (k' := 5) (ls' := [some (.ref a0)]) (st' := [.int (gI h a0 5), .ref (gR h (gR h a0 0) 4)]) (h' := h) rfl ?_
  refine mX_ck (k' := 6) (ls' := [some (.ref a0)]) (st' := [.int (gI h (gR h (gR h a0 0) 4) (ix (gI h a0 5)))]) (h' := h) rfl ?_
  refine mX_to 1 (k' := 7) (ls' := [some (.ref a0)]) (st' := [.int 9999, .int (gI h (gR h (gR h a0 0) 4) (ix (gI h a0 5)))]) (h' := h) rfl ?_
  refine mX_br (t := 12) (f := 8) (ls' := [some (.ref a0)]) (st' := []) (h' := h) rfl ?_ ?_
  · refine mX_to 3 (k' := 15) (ls' := [some (.ref a0)]) (st' := [.ref a0, .int 0, .ref a0]) (h' := h) rfl ?_
    refine mX_ck (k' := 16) (ls' := [some (.ref a0)]) (st' := [.ref (gR h a0 0), .int 0, .ref a0]) (h' := h) rfl ?_
    refine mX_ck (k' := 17) (ls' := [some (.ref a0)]) (st' := [.ref (gR h (gR h a0 0) 4), .int 0, .ref a0]) (h' := h) rfl ?_
    refine mX_to 1 (k' := 18) (ls' := [some (.ref a0)]) (st' := [.ref a0, .ref (gR h (gR h a0 0) 4), .int 0, .ref a0]) (h' := h) rfl ?_
    refine mX_ck (k' := 19) (ls' := [some (.ref a0)]) (st' := [.int (gI h a0 5), .ref (gR h (gR h a0 0) 4), .int 0, .ref a0]) (h' := h) rfl ?_
    refine mX_ck (k' := 20) (ls' := [some (.ref a0)]) (st' := [.int (gI h (gR h (gR h a0 0) 4) (ix (gI h a0 5))), .int 0, .ref a0]) (h' := h) rfl ?_
    refine mX_ckc (m := mcl (mE mtab d 71 [.ref a0, .int 0, .int (gI h (gR h (gR h a0 0) 4) (ix (gI h a0 5)))] h) 1 21 [some (.ref a0)] []) rfl ?_
    refine mk_cI ?_
    intro x2 h1
    refine mX_to 2 (k' := 23) (ls' := [some (.ref a0)]) (st' := [.ref a0]) (h' := h1) rfl ?_
    refine mX_ckc (m := mcl (mE mtab d 70 [.ref a0] h1) 0 24 [some (.ref a0)] []) rfl ?_
    refine mk_cV ?_
    intro h3
    refine mX_to 1 (k' := 25) (ls' := [some (.ref a0)]) (st' := [.int 1]) (h' := h3) rfl ?_
    exact mX_retb (by decide) rfl
  · refine mX_to 2 (k' := 10) (ls' := [some (.ref a0)]) (st' := [.int 2, .ref a0]) (h' := h) rfl ?_
    refine mX_ckc (m := mcl (mE mtab d 69 [.ref a0, .int 2] h) 1 11 [some (.ref a0)] []) rfl ?_
    refine mk_cI ?_
    intro x5 h4
    exact mX_retc rfl
theorem D_X4_name_10 (d : Nat) (h : MH) (l0 : Nat) (l1 : Int32) : mX (mE mtab d) KX4_name 10 [some (.ref l0), some (.int l1)] [] h = ck (kd h l0 = 5) (cI (mE mtab d 71 [.ref l0, .int 1, .int (l1 - 307)] h) (fun x4 h3 => ck (kd h3 l0 = 5) (cV (mE mtab d 70 [.ref l0] h3) (fun h5 => some (.int 1, h5))))) := by
  refine mX_to 5 (k' := 15) (ls' := [some (.ref l0), some (.int l1)]) (st' := [.int (l1 - 307), .int 1, .ref l0]) (h' := h) rfl ?_
  refine mX_ckc (m := mcl (mE mtab d 71 [.ref l0, .int 1, .int (l1 - 307)] h) 1 16 [some (.ref l0), some (.int l1)] []) rfl ?_
  refine mk_cI ?_
  intro x4 h3
  refine mX_to 2 (k' := 18) (ls' := [some (.ref l0), some (.int l1)]) (st' := [.ref l0]) (h' := h3) rfl ?_
  refine mX_ckc (m := mcl (mE mtab d 70 [.ref l0] h3) 0 19 [some (.ref l0), some (.int l1)] []) rfl ?_
  refine mk_cV ?_
  intro h5
  refine mX_to 1 (k' := 20) (ls' := [some (.ref l0), some (.int l1)]) (st' := [.int 1]) (h' := h5) rfl ?_
  exact mX_retb (by decide) rfl
theorem D_X4_name (d : Nat) (h : MH) (a0 : Nat) (a1 : Int32) : mE mtab (d + 1) 73 [.ref a0, .int a1] h = (if a1 < 311 then mX (mE mtab d) KX4_name 10 [some (.ref a0), some (.int a1)] [] h else ck (kd h a0 = 5) ((if (gI h a0 8) = 0 then ck (kd h a0 = 5) (cI (mE mtab d 69 [.ref a0, .int 5] h) (fun x2 h1 => ck (mrt 1 x2) (some (.int x2, h1)))) else mX (mE mtab d) KX4_name 10 [some (.ref a0), some (.int a1)] [] h))) := by
  refine mE_eq (q := (yX4_name, cX4_name, 2, (some .boolean), KX4_name)) (C := KX4_name) (ls := [some (.ref a0), some (.int a1)]) rfl rfl rfl rfl ?_
  refine mX_to 2 (k' := 2) (ls' := [some (.ref a0), some (.int a1)]) (st' := [.int 311, .int a1]) (h' := h) rfl ?_
  refine mX_br (t := 10) (f := 3) (ls' := [some (.ref a0), some (.int a1)]) (st' := []) (h' := h) rfl ?_ ?_
  · rfl
  · refine mX_to 1 (k' := 4) (ls' := [some (.ref a0), some (.int a1)]) (st' := [.ref a0]) (h' := h) rfl ?_
    refine mX_ck (k' := 5) (ls' := [some (.ref a0), some (.int a1)]) (st' := [.int (gI h a0 8)]) (h' := h) rfl ?_
    refine mX_br (t := 6) (f := 10) (ls' := [some (.ref a0), some (.int a1)]) (st' := []) (h' := h) rfl ?_ ?_
    · refine mX_to 2 (k' := 8) (ls' := [some (.ref a0), some (.int a1)]) (st' := [.int 5, .ref a0]) (h' := h) rfl ?_
      refine mX_ckc (m := mcl (mE mtab d 69 [.ref a0, .int 5] h) 1 9 [some (.ref a0), some (.int a1)] []) rfl ?_
      refine mk_cI ?_
      intro x2 h1
      exact mX_retc rfl
    · rfl
theorem D_X4_expect (d : Nat) (h : MH) (a0 : Nat) (a1 : Int32) : mE mtab (d + 1) 74 [.ref a0, .int a1] h = ck (kd h a0 = 5) (cI (mE mtab d 68 [.ref a0] h) (fun x2 h1 => (if x2 = a1 then ck (kd h1 a0 = 5) (cV (mE mtab d 70 [.ref a0] h1) (fun h3 => some (.int 1, h3))) else ck (kd h1 a0 = 5) (cI (mE mtab d 69 [.ref a0, .int 1] h1) (fun x5 h4 => ck (mrt 1 x5) (some (.int x5, h4))))))) := by
  refine mE_eq (q := (yX4_expect, cX4_expect, 2, (some .boolean), KX4_expect)) (C := KX4_expect) (ls := [some (.ref a0), some (.int a1)]) rfl rfl rfl rfl ?_
  refine mX_to 1 (k' := 1) (ls' := [some (.ref a0), some (.int a1)]) (st' := [.ref a0]) (h' := h) rfl ?_
  refine mX_ckc (m := mcl (mE mtab d 68 [.ref a0] h) 1 2 [some (.ref a0), some (.int a1)] []) rfl ?_
  refine mk_cI ?_
  intro x2 h1
  refine mX_to 1 (k' := 3) (ls' := [some (.ref a0), some (.int a1)]) (st' := [.int a1, .int x2]) (h' := h1) rfl ?_
  refine mX_br (t := 8) (f := 4) (ls' := [some (.ref a0), some (.int a1)]) (st' := []) (h' := h1) rfl ?_ ?_
  · refine mX_to 1 (k' := 9) (ls' := [some (.ref a0), some (.int a1)]) (st' := [.ref a0]) (h' := h1) rfl ?_
    refine mX_ckc (m := mcl (mE mtab d 70 [.ref a0] h1) 0 10 [some (.ref a0), some (.int a1)] []) rfl ?_
    refine mk_cV ?_
    intro h3
    refine mX_to 1 (k' := 11) (ls' := [some (.ref a0), some (.int a1)]) (st' := [.int 1]) (h' := h3) rfl ?_
    exact mX_retb (by decide) rfl
  · refine mX_to 2 (k' := 6) (ls' := [some (.ref a0), some (.int a1)]) (st' := [.int 1, .ref a0]) (h' := h1) rfl ?_
    refine mX_ckc (m := mcl (mE mtab d 69 [.ref a0, .int 1] h1) 1 7 [some (.ref a0), some (.int a1)] []) rfl ?_
    refine mk_cI ?_
    intro x5 h4
    exact mX_retc rfl
theorem D_X4_denial (d : Nat) (h : MH) (a0 : Nat) (a1 : Int32) : mE mtab (d + 1) 75 [.ref a0, .int a1] h = (if a1 < 8 then ck (kd h a0 = 5) (cV (mE mtab d 70 [.ref a0] h) (fun h1 => ck (kd h1 a0 = 5) (cI (mE mtab d 77 [.ref a0, .int (a1 + 1)] h1) (fun x3 h2 => ck (kd h2 a0 = 5) (cI (mE mtab d 71 [.ref a0, .int 7, .int 0] h2) (fun x5 h4 => ck (mrt 1 x3) (some (.int x3, h4)))))))) else ck (kd h a0 = 5) (cI (mE mtab d 69 [.ref a0, .int 3] h) (fun x7 h6 => ck (mrt 1 x7) (some (.int x7, h6))))) := by
  refine mE_eq (q := (yX4_denial, cX4_denial, 3, (some .boolean), KX4_denial)) (C := KX4_denial) (ls := [some (.ref a0), some (.int a1), none]) rfl rfl rfl rfl ?_
  refine mX_to 2 (k' := 2) (ls' := [some (.ref a0), some (.int a1), none]) (st' := [.int 8, .int a1]) (h' := h) rfl ?_
  refine mX_br (t := 7) (f := 3) (ls' := [some (.ref a0), some (.int a1), none]) (st' := []) (h' := h) rfl ?_ ?_
  · refine mX_to 1 (k' := 8) (ls' := [some (.ref a0), some (.int a1), none]) (st' := [.ref a0]) (h' := h) rfl ?_
    refine mX_ckc (m := mcl (mE mtab d 70 [.ref a0] h) 0 9 [some (.ref a0), some (.int a1), none] []) rfl ?_
    refine mk_cV ?_
    intro h1
    refine mX_to 4 (k' := 13) (ls' := [some (.ref a0), some (.int a1), none]) (st' := [.int (a1 + 1), .ref a0]) (h' := h1) rfl ?_
    refine mX_ckc (m := mcl (mE mtab d 77 [.ref a0, .int (a1 + 1)] h1) 1 14 [some (.ref a0), some (.int a1), none] []) rfl ?_
    refine mk_cI ?_
    intro x3 h2
    refine mX_to 4 (k' := 18) (ls' := [some (.ref a0), some (.int a1), some (.int x3)]) (st' := [.int 0, .int 7, .ref a0]) (h' := h2) rfl ?_
    refine mX_ckc (m := mcl (mE mtab d 71 [.ref a0, .int 7, .int 0] h2) 1 19 [some (.ref a0), some (.int a1), some (.int x3)] []) rfl ?_
    refine mk_cI ?_
    intro x5 h4
    refine mX_to 2 (k' := 21) (ls' := [some (.ref a0), some (.int a1), some (.int x3)]) (st' := [.int x3]) (h' := h4) rfl ?_
    exact mX_retc rfl
  · refine mX_to 2 (k' := 5) (ls' := [some (.ref a0), some (.int a1), none]) (st' := [.int 3, .ref a0]) (h' := h) rfl ?_
    refine mX_ckc (m := mcl (mE mtab d 69 [.ref a0, .int 3] h) 1 6 [some (.ref a0), some (.int a1), none] []) rfl ?_
    refine mk_cI ?_
    intro x7 h6
    exact mX_retc rfl
theorem D_X4_comparison (d : Nat) (h : MH) (a0 : Int32) : mE mtab (d + 1) 76 [.int a0] h = (if a0 = 35 then some (.int 17, h) else (if a0 = 60 then some (.int 12, h) else (if a0 = 61 then some (.int 16, h) else (if a0 = 62 then some (.int 14, h) else (if a0 = 256 then some (.int 13, h) else (if a0 = 257 then some (.int 15, h) else some (.int (-1), h))))))) := by
  refine mE_eq (q := (yX4_comparison, cX4_comparison, 1, (some .int), KX4_comparison)) (C := KX4_comparison) (ls := [some (.int a0)]) rfl rfl rfl rfl ?_
  refine mX_to 1 (k' := 1) (ls' := [some (.int a0)]) (st' := [.int a0]) (h' := h) rfl ?_
  refine mX_sw (x := a0) (t := 14) (sw := [(35, 12), (60, 2), (61, 10), (62, 6), (256, 4), (257, 8)]) (ls' := [some (.int a0)]) (st' := []) (h' := h) rfl ?_
  refine msw_cons ?_ ?_
  · refine mX_to 1 (k' := 13) (ls' := [some (.int a0)]) (st' := [.int 17]) (h' := h) rfl ?_
    exact mX_reti rfl
  refine msw_cons ?_ ?_
  · refine mX_to 1 (k' := 3) (ls' := [some (.int a0)]) (st' := [.int 12]) (h' := h) rfl ?_
    exact mX_reti rfl
  refine msw_cons ?_ ?_
  · refine mX_to 1 (k' := 11) (ls' := [some (.int a0)]) (st' := [.int 16]) (h' := h) rfl ?_
    exact mX_reti rfl
  refine msw_cons ?_ ?_
  · refine mX_to 1 (k' := 7) (ls' := [some (.int a0)]) (st' := [.int 14]) (h' := h) rfl ?_
    exact mX_reti rfl
  refine msw_cons ?_ ?_
  · refine mX_to 1 (k' := 5) (ls' := [some (.int a0)]) (st' := [.int 13]) (h' := h) rfl ?_
    exact mX_reti rfl
  refine msw_cons ?_ ?_
  · refine mX_to 1 (k' := 9) (ls' := [some (.int a0)]) (st' := [.int 15]) (h' := h) rfl ?_
    exact mX_reti rfl
  refine msw_nil ?_
  refine mX_to 1 (k' := 15) (ls' := [some (.int a0)]) (st' := [.int (-1)]) (h' := h) rfl ?_
  exact mX_reti rfl
theorem D_X4_ask (d : Nat) (h : MH) (a0 : Nat) (a1 : Int32) : mE mtab (d + 1) 77 [.ref a0, .int a1] h = ck (kd h a0 = 5) (cI (mE mtab d 68 [.ref a0] h) (fun x2 h1 => (if x2 = 323 then ck (kd h1 a0 = 5) (cI (mE mtab d 75 [.ref a0, .int a1] h1) (fun x4 h3 => ck (mrt 1 x4) (some (.int x4, h3)))) else ck (kd h1 a0 = 5) (cI (mE mtab d 84 [.ref a0, .int a1] h1) (fun x6 h5 => (if x6 = 0 then some (.int 0, h5) else ck (kd h5 a0 = 5) (cI (mE mtab d 68 [.ref a0] h5) (fun x8 h7 => cI (mE mtab d 76 [.int x8] h7) (fun x10 h9 => (if x10 = (-1) then ck (kd h9 a0 = 5) (cI (mE mtab d 69 [.ref a0, .int 1] h9) (fun x12 h11 => ck (mrt 1 x12) (some (.int x12, h11)))) else ck (kd h9 a0 = 5) (cV (mE mtab d 70 [.ref a0] h9) (fun h13 => ck (kd h13 a0 = 5) (cI (mE mtab d 84 [.ref a0, .int a1] h13) (fun x15 h14 => ck (kd h14 a0 = 5) (cI (mE mtab d 71 [.ref a0, .int x10, .int 0] h14) (fun x17 h16 => ck (mrt 1 x15) (some (.int x15, h16)))))))))))))))))) := by
  refine mE_eq (q := (yX4_ask, cX4_ask, 4, (some .boolean), KX4_ask)) (C := KX4_ask) (ls := [some (.ref a0), some (.int a1), none, none]) rfl rfl rfl rfl ?_
  refine mX_to 1 (k' := 1) (ls' := [some (.ref a0), some (.int a1), none, none]) (st' := [.ref a0]) (h' := h) rfl ?_
  refine mX_ckc (m := mcl (mE mtab d 68 [.ref a0] h) 1 2 [some (.ref a0), some (.int a1), none, none] []) rfl ?_
  refine mk_cI ?_
  intro x2 h1
  refine mX_to 1 (k' := 3) (ls' := [some (.ref a0), some (.int a1), none, none]) (st' := [.int 323, .int x2]) (h' := h1) rfl ?_
  refine mX_br (t := 4) (f := 8) (ls' := [some (.ref a0), some (.int a1), none, none]) (st' := []) (h' := h1) rfl ?_ ?_
  · refine mX_to 2 (k' := 6) (ls' := [some (.ref a0), some (.int a1), none, none]) (st' := [.int a1, .ref a0]) (h' := h1) rfl ?_
    refine mX_ckc (m := mcl (mE mtab d 75 [.ref a0, .int a1] h1) 1 7 [some (.ref a0), some (.int a1), none, none] []) rfl ?_
    refine mk_cI ?_
    intro x4 h3
    exact mX_retc rfl
  · refine mX_to 2 (k' := 10) (ls' := [some (.ref a0), some (.int a1), none, none]) (st' := [.int a1, .ref a0]) (h' := h1) rfl ?_
    refine mX_ckc (m := mcl (mE mtab d 84 [.ref a0, .int a1] h1) 1 11 [some (.ref a0), some (.int a1), none, none] []) rfl ?_
    refine mk_cI ?_
    intro x6 h5
    refine mX_br (t := 12) (f := 14) (ls' := [some (.ref a0), some (.int a1), none, none]) (st' := []) (h' := h5) rfl ?_ ?_
    · refine mX_to 1 (k' := 13) (ls' := [some (.ref a0), some (.int a1), none, none]) (st' := [.int 0]) (h' := h5) rfl ?_
      exact mX_retb (by decide) rfl
    · refine mX_to 1 (k' := 15) (ls' := [some (.ref a0), some (.int a1), none, none]) (st' := [.ref a0]) (h' := h5) rfl ?_
      refine mX_ckc (m := mcl (mE mtab d 68 [.ref a0] h5) 1 16 [some (.ref a0), some (.int a1), none, none] []) rfl ?_
      refine mk_cI ?_
      intro x8 h7
      refine mX_cI (o := mE mtab d 76 [.int x8] h7) (k' := 17) (ls' := [some (.ref a0), some (.int a1), none, none]) (st' := []) rfl ?_
      intro x10 h9
      refine mX_to 3 (k' := 20) (ls' := [some (.ref a0), some (.int a1), some (.int x10), none]) (st' := [.int (-1), .int x10]) (h' := h9) rfl ?_
      refine mX_br (t := 21) (f := 25) (ls' := [some (.ref a0), some (.int a1), some (.int x10), none]) (st' := []) (h' := h9) rfl ?_ ?_
      · refine mX_to 2 (k' := 23) (ls' := [some (.ref a0), some (.int a1), some (.int x10), none]) (st' := [.int 1, .ref a0]) (h' := h9) rfl ?_
        refine mX_ckc (m := mcl (mE mtab d 69 [.ref a0, .int 1] h9) 1 24 [some (.ref a0), some (.int a1), some (.int x10), none] []) rfl ?_
        refine mk_cI ?_
        intro x12 h11
        exact mX_retc rfl
      · refine mX_to 1 (k' := 26) (ls' := [some (.ref a0), some (.int a1), some (.int x10), none]) (st' := [.ref a0]) (h' := h9) rfl ?_
        refine mX_ckc (m := mcl (mE mtab d 70 [.ref a0] h9) 0 27 [some (.ref a0), some (.int a1), some (.int x10), none] []) rfl ?_
        refine mk_cV ?_
        intro h13
        refine mX_to 2 (k' := 29) (ls' := [some (.ref a0), some (.int a1), some (.int x10), none]) (st' := [.int a1, .ref a0]) (h' := h13) rfl ?_
        refine mX_ckc (m := mcl (mE mtab d 84 [.ref a0, .int a1] h13) 1 30 [some (.ref a0), some (.int a1), some (.int x10), none] []) rfl ?_
        refine mk_cI ?_
        intro x15 h14
        refine mX_to 4 (k' := 34) (ls' := [some (.ref a0), some (.int a1), some (.int x10), some (.int x15)]) (st' := [.int 0, .int x10, .ref a0]) (h' := h14) rfl ?_
        refine mX_ckc (m := mcl (mE mtab d 71 [.ref a0, .int x10, .int 0] h14) 1 35 [some (.ref a0), some (.int a1), some (.int x10), some (.int x15)] []) rfl ?_
        refine mk_cI ?_
        intro x17 h16
        refine mX_to 2 (k' := 37) (ls' := [some (.ref a0), some (.int a1), some (.int x10), some (.int x15)]) (st' := [.int x15]) (h' := h16) rfl ?_
        exact mX_retc rfl
theorem D_X4_both_6 (d : Nat) (h : MH) (l0 : Nat) (l1 : Int32) (l2 : Int32) (l3 : Int32) : mX (mE mtab d) KX4_both 6 [some (.ref l0), some (.int l1), some (.int l2), some (.int l3)] [] h = (if l3 < 300 then (if l2 = 0 then ck (mrt 1 l2) (some (.int l2, h)) else ck (kd h l0 = 5) (cI (mE mtab d 68 [.ref l0] h) (fun x4 h3 => (if x4 = 322 then ck (kd h3 l0 = 5) (cV (mE mtab d 70 [.ref l0] h3) (fun h5 => ck (kd h5 l0 = 5) (cI (mE mtab d 77 [.ref l0, .int l1] h5) (fun x7 h6 => ck (kd h6 l0 = 5) (cI (mE mtab d 71 [.ref l0, .int 19, .int 0] h6) (fun x9 h8 => mX (mE mtab d) KX4_both 6 [some (.ref l0), some (.int l1), some (.int x7), some (.int (l3 + 1))] [] h8)))))) else ck (mrt 1 l2) (some (.int l2, h3)))))) else ck (mrt 1 l2) (some (.int l2, h))) := by
  refine mX_to 2 (k' := 8) (ls' := [some (.ref l0), some (.int l1), some (.int l2), some (.int l3)]) (st' := [.int 300, .int l3]) (h' := h) rfl ?_
  refine mX_br (t := 9) (f := 28) (ls' := [some (.ref l0), some (.int l1), some (.int l2), some (.int l3)]) (st' := []) (h' := h) rfl ?_ ?_
  · refine mX_to 1 (k' := 10) (ls' := [some (.ref l0), some (.int l1), some (.int l2), some (.int l3)]) (st' := [.int l2]) (h' := h) rfl ?_
    refine mX_br (t := 28) (f := 11) (ls' := [some (.ref l0), some (.int l1), some (.int l2), some (.int l3)]) (st' := []) (h' := h) rfl ?_ ?_
    · refine mX_to 1 (k' := 29) (ls' := [some (.ref l0), some (.int l1), some (.int l2), some (.int l3)]) (st' := [.int l2]) (h' := h) rfl ?_
      exact mX_retc rfl
    · refine mX_to 1 (k' := 12) (ls' := [some (.ref l0), some (.int l1), some (.int l2), some (.int l3)]) (st' := [.ref l0]) (h' := h) rfl ?_
      refine mX_ckc (m := mcl (mE mtab d 68 [.ref l0] h) 1 13 [some (.ref l0), some (.int l1), some (.int l2), some (.int l3)] []) rfl ?_
      refine mk_cI ?_
      intro x4 h3
      refine mX_to 1 (k' := 14) (ls' := [some (.ref l0), some (.int l1), some (.int l2), some (.int l3)]) (st' := [.int 322, .int x4]) (h' := h3) rfl ?_
      refine mX_br (t := 15) (f := 28) (ls' := [some (.ref l0), some (.int l1), some (.int l2), some (.int l3)]) (st' := []) (h' := h3) rfl ?_ ?_
      · refine mX_to 1 (k' := 16) (ls' := [some (.ref l0), some (.int l1), some (.int l2), some (.int l3)]) (st' := [.ref l0]) (h' := h3) rfl ?_
        refine mX_ckc (m := mcl (mE mtab d 70 [.ref l0] h3) 0 17 [some (.ref l0), some (.int l1), some (.int l2), some (.int l3)] []) rfl ?_
        refine mk_cV ?_
        intro h5
        refine mX_to 2 (k' := 19) (ls' := [some (.ref l0), some (.int l1), some (.int l2), some (.int l3)]) (st' := [.int l1, .ref l0]) (h' := h5) rfl ?_
        refine mX_ckc (m := mcl (mE mtab d 77 [.ref l0, .int l1] h5) 1 20 [some (.ref l0), some (.int l1), some (.int l2), some (.int l3)] []) rfl ?_
        refine mk_cI ?_
        intro x7 h6
        refine mX_to 4 (k' := 24) (ls' := [some (.ref l0), some (.int l1), some (.int x7), some (.int l3)]) (st' := [.int 0, .int 19, .ref l0]) (h' := h6) rfl ?_
        refine mX_ckc (m := mcl (mE mtab d 71 [.ref l0, .int 19, .int 0] h6) 1 25 [some (.ref l0), some (.int l1), some (.int x7), some (.int l3)] []) rfl ?_
        refine mk_cI ?_
        intro x9 h8
        refine mX_to 3 (k' := 6) (ls' := [some (.ref l0), some (.int l1), some (.int x7), some (.int (l3 + 1))]) (st' := []) (h' := h8) rfl ?_
        rfl
      · refine mX_to 1 (k' := 29) (ls' := [some (.ref l0), some (.int l1), some (.int l2), some (.int l3)]) (st' := [.int l2]) (h' := h3) rfl ?_
        exact mX_retc rfl
  · refine mX_to 1 (k' := 29) (ls' := [some (.ref l0), some (.int l1), some (.int l2), some (.int l3)]) (st' := [.int l2]) (h' := h) rfl ?_
    exact mX_retc rfl
theorem D_X4_both (d : Nat) (h : MH) (a0 : Nat) (a1 : Int32) : mE mtab (d + 1) 78 [.ref a0, .int a1] h = ck (kd h a0 = 5) (cI (mE mtab d 77 [.ref a0, .int a1] h) (fun x2 h1 => mX (mE mtab d) KX4_both 6 [some (.ref a0), some (.int a1), some (.int x2), some (.int 0)] [] h1)) := by
  refine mE_eq (q := (yX4_both, cX4_both, 4, (some .boolean), KX4_both)) (C := KX4_both) (ls := [some (.ref a0), some (.int a1), none, none]) rfl rfl rfl rfl ?_
  refine mX_to 2 (k' := 2) (ls' := [some (.ref a0), some (.int a1), none, none]) (st' := [.int a1, .ref a0]) (h' := h) rfl ?_
  refine mX_ckc (m := mcl (mE mtab d 77 [.ref a0, .int a1] h) 1 3 [some (.ref a0), some (.int a1), none, none] []) rfl ?_
  refine mk_cI ?_
  intro x2 h1
  refine mX_to 3 (k' := 6) (ls' := [some (.ref a0), some (.int a1), some (.int x2), some (.int 0)]) (st' := []) (h' := h1) rfl ?_
  rfl
theorem D_X4_either_6 (d : Nat) (h : MH) (l0 : Nat) (l1 : Int32) (l2 : Int32) (l3 : Int32) : mX (mE mtab d) KX4_either 6 [some (.ref l0), some (.int l1), some (.int l2), some (.int l3)] [] h = (if l3 < 300 then (if l2 = 0 then ck (mrt 1 l2) (some (.int l2, h)) else ck (kd h l0 = 5) (cI (mE mtab d 68 [.ref l0] h) (fun x4 h3 => (if x4 = 321 then ck (kd h3 l0 = 5) (cV (mE mtab d 70 [.ref l0] h3) (fun h5 => ck (kd h5 l0 = 5) (cI (mE mtab d 78 [.ref l0, .int l1] h5) (fun x7 h6 => ck (kd h6 l0 = 5) (cI (mE mtab d 71 [.ref l0, .int 18, .int 0] h6) (fun x9 h8 => mX (mE mtab d) KX4_either 6 [some (.ref l0), some (.int l1), some (.int x7), some (.int (l3 + 1))] [] h8)))))) else ck (mrt 1 l2) (some (.int l2, h3)))))) else ck (mrt 1 l2) (some (.int l2, h))) := by
  refine mX_to 2 (k' := 8) (ls' := [some (.ref l0), some (.int l1), some (.int l2), some (.int l3)]) (st' := [.int 300, .int l3]) (h' := h) rfl ?_
  refine mX_br (t := 9) (f := 28) (ls' := [some (.ref l0), some (.int l1), some (.int l2), some (.int l3)]) (st' := []) (h' := h) rfl ?_ ?_
  · refine mX_to 1 (k' := 10) (ls' := [some (.ref l0), some (.int l1), some (.int l2), some (.int l3)]) (st' := [.int l2]) (h' := h) rfl ?_
    refine mX_br (t := 28) (f := 11) (ls' := [some (.ref l0), some (.int l1), some (.int l2), some (.int l3)]) (st' := []) (h' := h) rfl ?_ ?_
    · refine mX_to 1 (k' := 29) (ls' := [some (.ref l0), some (.int l1), some (.int l2), some (.int l3)]) (st' := [.int l2]) (h' := h) rfl ?_
      exact mX_retc rfl
    · refine mX_to 1 (k' := 12) (ls' := [some (.ref l0), some (.int l1), some (.int l2), some (.int l3)]) (st' := [.ref l0]) (h' := h) rfl ?_
      refine mX_ckc (m := mcl (mE mtab d 68 [.ref l0] h) 1 13 [some (.ref l0), some (.int l1), some (.int l2), some (.int l3)] []) rfl ?_
      refine mk_cI ?_
      intro x4 h3
      refine mX_to 1 (k' := 14) (ls' := [some (.ref l0), some (.int l1), some (.int l2), some (.int l3)]) (st' := [.int 321, .int x4]) (h' := h3) rfl ?_
      refine mX_br (t := 15) (f := 28) (ls' := [some (.ref l0), some (.int l1), some (.int l2), some (.int l3)]) (st' := []) (h' := h3) rfl ?_ ?_
      · refine mX_to 1 (k' := 16) (ls' := [some (.ref l0), some (.int l1), some (.int l2), some (.int l3)]) (st' := [.ref l0]) (h' := h3) rfl ?_
        refine mX_ckc (m := mcl (mE mtab d 70 [.ref l0] h3) 0 17 [some (.ref l0), some (.int l1), some (.int l2), some (.int l3)] []) rfl ?_
        refine mk_cV ?_
        intro h5
        refine mX_to 2 (k' := 19) (ls' := [some (.ref l0), some (.int l1), some (.int l2), some (.int l3)]) (st' := [.int l1, .ref l0]) (h' := h5) rfl ?_
        refine mX_ckc (m := mcl (mE mtab d 78 [.ref l0, .int l1] h5) 1 20 [some (.ref l0), some (.int l1), some (.int l2), some (.int l3)] []) rfl ?_
        refine mk_cI ?_
        intro x7 h6
        refine mX_to 4 (k' := 24) (ls' := [some (.ref l0), some (.int l1), some (.int x7), some (.int l3)]) (st' := [.int 0, .int 18, .ref l0]) (h' := h6) rfl ?_
        refine mX_ckc (m := mcl (mE mtab d 71 [.ref l0, .int 18, .int 0] h6) 1 25 [some (.ref l0), some (.int l1), some (.int x7), some (.int l3)] []) rfl ?_
        refine mk_cI ?_
        intro x9 h8
        refine mX_to 3 (k' := 6) (ls' := [some (.ref l0), some (.int l1), some (.int x7), some (.int (l3 + 1))]) (st' := []) (h' := h8) rfl ?_
        rfl
      · refine mX_to 1 (k' := 29) (ls' := [some (.ref l0), some (.int l1), some (.int l2), some (.int l3)]) (st' := [.int l2]) (h' := h3) rfl ?_
        exact mX_retc rfl
  · refine mX_to 1 (k' := 29) (ls' := [some (.ref l0), some (.int l1), some (.int l2), some (.int l3)]) (st' := [.int l2]) (h' := h) rfl ?_
    exact mX_retc rfl
theorem D_X4_either (d : Nat) (h : MH) (a0 : Nat) (a1 : Int32) : mE mtab (d + 1) 79 [.ref a0, .int a1] h = ck (kd h a0 = 5) (cI (mE mtab d 78 [.ref a0, .int a1] h) (fun x2 h1 => mX (mE mtab d) KX4_either 6 [some (.ref a0), some (.int a1), some (.int x2), some (.int 0)] [] h1)) := by
  refine mE_eq (q := (yX4_either, cX4_either, 4, (some .boolean), KX4_either)) (C := KX4_either) (ls := [some (.ref a0), some (.int a1), none, none]) rfl rfl rfl rfl ?_
  refine mX_to 2 (k' := 2) (ls' := [some (.ref a0), some (.int a1), none, none]) (st' := [.int a1, .ref a0]) (h' := h) rfl ?_
  refine mX_ckc (m := mcl (mE mtab d 78 [.ref a0, .int a1] h) 1 3 [some (.ref a0), some (.int a1), none, none] []) rfl ?_
  refine mk_cI ?_
  intro x2 h1
  refine mX_to 3 (k' := 6) (ls' := [some (.ref a0), some (.int a1), some (.int x2), some (.int 0)]) (st' := []) (h' := h1) rfl ?_
  rfl
theorem D_X4_aim (d : Nat) (h : MH) (a0 : Nat) (a1 : Int32) : mE mtab (d + 1) 80 [.ref a0, .int a1] h = ck (kd h a0 = 5) (cI (mE mtab d 11 [.int a1, .int 0, .int ((gI h a0 7) - 1)] h) (fun x2 h1 => (if x2 = 0 then some (.int 0, h1) else ck (kd h1 a0 = 5) (ck (kd h1 a0 = 5) (ck (kd h1 a0 = 5) (ck ((kd h1 (gR h1 a0 4) = 20 ∨ kd h1 (gR h1 a0 4) = 24) ∧ ib a1 (ln h1 (gR h1 a0 4))) (ck (kd h1 (gR h1 a0 4) = 20 ∧ ib a1 (ln h1 (gR h1 a0 4))) (lt_ (sI h1 (gR h1 a0 4) (ix a1) (((gI h1 a0 7) <<< (5 &&& 31)) ||| ((gI h1 (gR h1 a0 4) (ix a1)) &&& 31))) fun h3 => some (.int 0, h3))))))))) := by
  refine mE_eq (q := (yX4_aim, cX4_aim, 2, none, KX4_aim)) (C := KX4_aim) (ls := [some (.ref a0), some (.int a1)]) rfl rfl rfl rfl ?_
  refine mX_to 3 (k' := 3) (ls' := [some (.ref a0), some (.int a1)]) (st' := [.ref a0, .int 0, .int a1]) (h' := h) rfl ?_
  refine mX_ck (k' := 4) (ls' := [some (.ref a0), some (.int a1)]) (st' := [.int (gI h a0 7), .int 0, .int a1]) (h' := h) rfl ?_
  refine mX_to 2 (k' := 6) (ls' := [some (.ref a0), some (.int a1)]) (st' := [.int ((gI h a0 7) - 1), .int 0, .int a1]) (h' := h) rfl ?_
  refine mX_cI (o := mE mtab d 11 [.int a1, .int 0, .int ((gI h a0 7) - 1)] h) (k' := 7) (ls' := [some (.ref a0), some (.int a1)]) (st' := []) rfl ?_
  intro x2 h1
  refine mX_br (t := 23) (f := 8) (ls' := [some (.ref a0), some (.int a1)]) (st' := []) (h' := h1) rfl ?_ ?_
  · exact mX_ret rfl
  · refine mX_to 1 (k' := 9) (ls' := [some (.ref a0), some (.int a1)]) (st' := [.ref a0]) (h' := h1) rfl ?_
    refine mX_ck (k' := 10) (ls' := [some (.ref a0), some (.int a1)]) (st' := [.ref (gR h1 a0 4)]) (h' := h1) rfl ?_
    refine mX_to 2 (k' := 12) (ls' := [some (.ref a0), some (.int a1)]) (st' := [.ref a0, .int a1, .ref (gR h1 a0 4)]) (h' := h1) rfl ?_
    refine mX_ck (k' := 13) (ls' := [some (.ref a0), some (.int a1)]) (st' := [.int (gI h1 a0 7), .int a1, .ref (gR h1 a0 4)]) (h' := h1) rfl ?_
    refine mX_to 3 (k' := 16) (ls' := [some (.ref a0), some (.int a1)]) (st' := [.ref a0, .int ((gI h1 a0 7) <<< (5 &&& 31)), .int a1, .ref (gR h1 a0 4)]) (h' := h1) rfl ?_
    refine mX_ck (k' := 17) (ls' := [some (.ref a0), some (.int a1)]) (st' := [.ref (gR h1 a0 4), .int ((gI h1 a0 7) <<< (5 &&& 31)), .int a1, .ref (gR h1 a0 4)]) (h' := h1) rfl ?_
    refine mX_to 1 (k' := 18) (ls' := [some (.ref a0), some (.int a1)]) (st' := [.int a1, .ref (gR h1 a0 4), .int ((gI h1 a0 7) <<< (5 &&& 31)), .int a1, .ref (gR h1 a0 4)]) (h' := h1) rfl ?_
    refine mX_ck (k' := 19) (ls' := [some (.ref a0), some (.int a1)]) (st' := [.int (gI h1 (gR h1 a0 4) (ix a1)), .int ((gI h1 a0 7) <<< (5 &&& 31)), .int a1, .ref (gR h1 a0 4)]) (h' := h1) rfl ?_
    refine mX_to 3 (k' := 22) (ls' := [some (.ref a0), some (.int a1)]) (st' := [.int (((gI h1 a0 7) <<< (5 &&& 31)) ||| ((gI h1 (gR h1 a0 4) (ix a1)) &&& 31)), .int a1, .ref (gR h1 a0 4)]) (h' := h1) rfl ?_
    refine mX_ck (k' := 23) (ls' := [some (.ref a0), some (.int a1)]) (st' := []) (h' := (sI h1 (gR h1 a0 4) (ix a1) (((gI h1 a0 7) <<< (5 &&& 31)) ||| ((gI h1 (gR h1 a0 4) (ix a1)) &&& 31)))) rfl ?_
    refine lt_gen (X := fun h3 : MH => mX (mE mtab d) KX4_aim 23 [some (.ref a0), some (.int a1)] [] h3) fun h3 => ?_
    exact mX_ret rfl
theorem D_X4_choice (d : Nat) (h : MH) (a0 : Nat) (a1 : Int32) : mE mtab (d + 1) 81 [.ref a0, .int a1] h = ck (kd h a0 = 5) (cI (mE mtab d 79 [.ref a0, .int a1] h) (fun x2 h1 => (if x2 = 0 then some (.int 0, h1) else ck (kd h1 a0 = 5) (cI (mE mtab d 74 [.ref a0, .int 318] h1) (fun x4 h3 => (if x4 = 0 then some (.int 0, h3) else ck (kd h3 a0 = 5) (cI (mE mtab d 71 [.ref a0, .int 3, .int 0] h3) (fun x6 h5 => ck (kd h5 a0 = 5) (cI (mE mtab d 84 [.ref a0, .int a1] h5) (fun x8 h7 => (if x8 = 0 then some (.int 0, h7) else ck (kd h7 a0 = 5) (cI (mE mtab d 74 [.ref a0, .int 319] h7) (fun x10 h9 => (if x10 = 0 then some (.int 0, h9) else ck (kd h9 a0 = 5) (cI (mE mtab d 71 [.ref a0, .int 2, .int 0] h9) (fun x12 h11 => ck (kd h11 a0 = 5) (cV (mE mtab d 80 [.ref a0, .int x6] h11) (fun h13 => ck (kd h13 a0 = 5) (cI (mE mtab d 84 [.ref a0, .int a1] h13) (fun x15 h14 => (if x15 = 0 then some (.int 0, h14) else ck (kd h14 a0 = 5) (cI (mE mtab d 74 [.ref a0, .int 320] h14) (fun x17 h16 => (if x17 = 0 then some (.int 0, h16) else ck (kd h16 a0 = 5) (cV (mE mtab d 80 [.ref a0, .int x12] h16) (fun h18 => some (.int 1, h18))))))))))))))))))))))))))) := by
  refine mE_eq (q := (yX4_choice, cX4_choice, 4, (some .boolean), KX4_choice)) (C := KX4_choice) (ls := [some (.ref a0), some (.int a1), none, none]) rfl rfl rfl rfl ?_
  refine mX_to 2 (k' := 2) (ls' := [some (.ref a0), some (.int a1), none, none]) (st' := [.int a1, .ref a0]) (h' := h) rfl ?_
  refine mX_ckc (m := mcl (mE mtab d 79 [.ref a0, .int a1] h) 1 3 [some (.ref a0), some (.int a1), none, none] []) rfl ?_
  refine mk_cI ?_
  intro x2 h1
  refine mX_br (t := 8) (f := 4) (ls' := [some (.ref a0), some (.int a1), none, none]) (st' := []) (h' := h1) rfl ?_ ?_
  · refine mX_to 1 (k' := 9) (ls' := [some (.ref a0), some (.int a1), none, none]) (st' := [.int 0]) (h' := h1) rfl ?_
    exact mX_retb (by decide) rfl
  · refine mX_to 2 (k' := 6) (ls' := [some (.ref a0), some (.int a1), none, none]) (st' := [.int 318, .ref a0]) (h' := h1) rfl ?_
    refine mX_ckc (m := mcl (mE mtab d 74 [.ref a0, .int 318] h1) 1 7 [some (.ref a0), some (.int a1), none, none] []) rfl ?_
    refine mk_cI ?_
    intro x4 h3
    refine mX_br (t := 8) (f := 10) (ls' := [some (.ref a0), some (.int a1), none, none]) (st' := []) (h' := h3) rfl ?_ ?_
    · refine mX_to 1 (k' := 9) (ls' := [some (.ref a0), some (.int a1), none, none]) (st' := [.int 0]) (h' := h3) rfl ?_
      exact mX_retb (by decide) rfl
    · refine mX_to 3 (k' := 13) (ls' := [some (.ref a0), some (.int a1), none, none]) (st' := [.int 0, .int 3, .ref a0]) (h' := h3) rfl ?_
      refine mX_ckc (m := mcl (mE mtab d 71 [.ref a0, .int 3, .int 0] h3) 1 14 [some (.ref a0), some (.int a1), none, none] []) rfl ?_
      refine mk_cI ?_
      intro x6 h5
      refine mX_to 3 (k' := 17) (ls' := [some (.ref a0), some (.int a1), some (.int x6), none]) (st' := [.int a1, .ref a0]) (h' := h5) rfl ?_
      refine mX_ckc (m := mcl (mE mtab d 84 [.ref a0, .int a1] h5) 1 18 [some (.ref a0), some (.int a1), some (.int x6), none] []) rfl ?_
      refine mk_cI ?_
      intro x8 h7
      refine mX_br (t := 23) (f := 19) (ls' := [some (.ref a0), some (.int a1), some (.int x6), none]) (st' := []) (h' := h7) rfl ?_ ?_
      · refine mX_to 1 (k' := 24) (ls' := [some (.ref a0), some (.int a1), some (.int x6), none]) (st' := [.int 0]) (h' := h7) rfl ?_
        exact mX_retb (by decide) rfl
      · refine mX_to 2 (k' := 21) (ls' := [some (.ref a0), some (.int a1), some (.int x6), none]) (st' := [.int 319, .ref a0]) (h' := h7) rfl ?_
        refine mX_ckc (m := mcl (mE mtab d 74 [.ref a0, .int 319] h7) 1 22 [some (.ref a0), some (.int a1), some (.int x6), none] []) rfl ?_
        refine mk_cI ?_
        intro x10 h9
        refine mX_br (t := 23) (f := 25) (ls' := [some (.ref a0), some (.int a1), some (.int x6), none]) (st' := []) (h' := h9) rfl ?_ ?_
        · refine mX_to 1 (k' := 24) (ls' := [some (.ref a0), some (.int a1), some (.int x6), none]) (st' := [.int 0]) (h' := h9) rfl ?_
          exact mX_retb (by decide) rfl
        · refine mX_to 3 (k' := 28) (ls' := [some (.ref a0), some (.int a1), some (.int x6), none]) (st' := [.int 0, .int 2, .ref a0]) (h' := h9) rfl ?_
          refine mX_ckc (m := mcl (mE mtab d 71 [.ref a0, .int 2, .int 0] h9) 1 29 [some (.ref a0), some (.int a1), some (.int x6), none] []) rfl ?_
          refine mk_cI ?_
          intro x12 h11
          refine mX_to 3 (k' := 32) (ls' := [some (.ref a0), some (.int a1), some (.int x6), some (.int x12)]) (st' := [.int x6, .ref a0]) (h' := h11) rfl ?_
          refine mX_ckc (m := mcl (mE mtab d 80 [.ref a0, .int x6] h11) 0 33 [some (.ref a0), some (.int a1), some (.int x6), some (.int x12)] []) rfl ?_
          refine mk_cV ?_
          intro h13
          refine mX_to 2 (k' := 35) (ls' := [some (.ref a0), some (.int a1), some (.int x6), some (.int x12)]) (st' := [.int a1, .ref a0]) (h' := h13) rfl ?_
          refine mX_ckc (m := mcl (mE mtab d 84 [.ref a0, .int a1] h13) 1 36 [some (.ref a0), some (.int a1), some (.int x6), some (.int x12)] []) rfl ?_
          refine mk_cI ?_
          intro x15 h14
          refine mX_br (t := 41) (f := 37) (ls' := [some (.ref a0), some (.int a1), some (.int x6), some (.int x12)]) (st' := []) (h' := h14) rfl ?_ ?_
          · refine mX_to 1 (k' := 42) (ls' := [some (.ref a0), some (.int a1), some (.int x6), some (.int x12)]) (st' := [.int 0]) (h' := h14) rfl ?_
            exact mX_retb (by decide) rfl
          · refine mX_to 2 (k' := 39) (ls' := [some (.ref a0), some (.int a1), some (.int x6), some (.int x12)]) (st' := [.int 320, .ref a0]) (h' := h14) rfl ?_
            refine mX_ckc (m := mcl (mE mtab d 74 [.ref a0, .int 320] h14) 1 40 [some (.ref a0), some (.int a1), some (.int x6), some (.int x12)] []) rfl ?_
            refine mk_cI ?_
            intro x17 h16
            refine mX_br (t := 41) (f := 43) (ls' := [some (.ref a0), some (.int a1), some (.int x6), some (.int x12)]) (st' := []) (h' := h16) rfl ?_ ?_
            · refine mX_to 1 (k' := 42) (ls' := [some (.ref a0), some (.int a1), some (.int x6), some (.int x12)]) (st' := [.int 0]) (h' := h16) rfl ?_
              exact mX_retb (by decide) rfl
            · refine mX_to 2 (k' := 45) (ls' := [some (.ref a0), some (.int a1), some (.int x6), some (.int x12)]) (st' := [.int x12, .ref a0]) (h' := h16) rfl ?_
              refine mX_ckc (m := mcl (mE mtab d 80 [.ref a0, .int x12] h16) 0 46 [some (.ref a0), some (.int a1), some (.int x6), some (.int x12)] []) rfl ?_
              refine mk_cV ?_
              intro h18
              refine mX_to 1 (k' := 47) (ls' := [some (.ref a0), some (.int a1), some (.int x6), some (.int x12)]) (st' := [.int 1]) (h' := h18) rfl ?_
              exact mX_retb (by decide) rfl
theorem D_X4_one_37 (d : Nat) (h : MH) (l0 : Nat) (l1 : Int32) (l2 : Int32) : mX (mE mtab d) KX4_one 37 [some (.ref l0), some (.int l1), some (.int l2), none] [] h = (if l1 < 8 then ck (kd h l0 = 5) (cV (mE mtab d 70 [.ref l0] h) (fun h11 => (if l2 = 40 then ck (kd h11 l0 = 5) (cI (mE mtab d 84 [.ref l0, .int (l1 + 1)] h11) (fun x13 h12 => (if x13 = 0 then some (.int 0, h12) else ck (kd h12 l0 = 5) (cI (mE mtab d 74 [.ref l0, .int 41] h12) (fun x15 h14 => (if x15 = 0 then some (.int 0, h14) else some (.int 1, h14))))))) else (if l2 = 317 then ck (kd h11 l0 = 5) (cI (mE mtab d 81 [.ref l0, .int (l1 + 1)] h11) (fun x17 h16 => ck (mrt 1 x17) (some (.int x17, h16)))) else ck (kd h11 l0 = 5) (cI (mE mtab d 82 [.ref l0, .int (l1 + 1)] h11) (fun x19 h18 => (if l2 = 45 then mX (mE mtab d) KX4_one 90 [some (.ref l0), some (.int l1), some (.int l2), some (.int x19)] [.int 4, .ref l0] h18 else (if l2 = 315 then mX (mE mtab d) KX4_one 90 [some (.ref l0), some (.int l1), some (.int l2), some (.int x19)] [.int 5, .ref l0] h18 else mX (mE mtab d) KX4_one 90 [some (.ref l0), some (.int l1), some (.int l2), some (.int x19)] [.int 6, .ref l0] h18)))))))) else ck (kd h l0 = 5) (cI (mE mtab d 69 [.ref l0, .int 3] h) (fun x21 h20 => ck (mrt 1 x21) (some (.int x21, h20))))) := by
  refine mX_to 2 (k' := 39) (ls' := [some (.ref l0), some (.int l1), some (.int l2), none]) (st' := [.int 8, .int l1]) (h' := h) rfl ?_
  refine mX_br (t := 44) (f := 40) (ls' := [some (.ref l0), some (.int l1), some (.int l2), none]) (st' := []) (h' := h) rfl ?_ ?_
  · refine mX_to 1 (k' := 45) (ls' := [some (.ref l0), some (.int l1), some (.int l2), none]) (st' := [.ref l0]) (h' := h) rfl ?_
    refine mX_ckc (m := mcl (mE mtab d 70 [.ref l0] h) 0 46 [some (.ref l0), some (.int l1), some (.int l2), none] []) rfl ?_
    refine mk_cV ?_
    intro h11
    refine mX_to 2 (k' := 48) (ls' := [some (.ref l0), some (.int l1), some (.int l2), none]) (st' := [.int 40, .int l2]) (h' := h11) rfl ?_
    refine mX_br (t := 49) (f := 63) (ls' := [some (.ref l0), some (.int l1), some (.int l2), none]) (st' := []) (h' := h11) rfl ?_ ?_
    · refine mX_to 4 (k' := 53) (ls' := [some (.ref l0), some (.int l1), some (.int l2), none]) (st' := [.int (l1 + 1), .ref l0]) (h' := h11) rfl ?_
      refine mX_ckc (m := mcl (mE mtab d 84 [.ref l0, .int (l1 + 1)] h11) 1 54 [some (.ref l0), some (.int l1), some (.int l2), none] []) rfl ?_
      refine mk_cI ?_
      intro x13 h12
      refine mX_br (t := 61) (f := 55) (ls' := [some (.ref l0), some (.int l1), some (.int l2), none]) (st' := []) (h' := h12) rfl ?_ ?_
      · refine mX_to 1 (k' := 62) (ls' := [some (.ref l0), some (.int l1), some (.int l2), none]) (st' := [.int 0]) (h' := h12) rfl ?_
        exact mX_retb (by decide) rfl
      · refine mX_to 2 (k' := 57) (ls' := [some (.ref l0), some (.int l1), some (.int l2), none]) (st' := [.int 41, .ref l0]) (h' := h12) rfl ?_
        refine mX_ckc (m := mcl (mE mtab d 74 [.ref l0, .int 41] h12) 1 58 [some (.ref l0), some (.int l1), some (.int l2), none] []) rfl ?_
        refine mk_cI ?_
        intro x15 h14
        refine mX_br (t := 61) (f := 59) (ls' := [some (.ref l0), some (.int l1), some (.int l2), none]) (st' := []) (h' := h14) rfl ?_ ?_
        · refine mX_to 1 (k' := 62) (ls' := [some (.ref l0), some (.int l1), some (.int l2), none]) (st' := [.int 0]) (h' := h14) rfl ?_
          exact mX_retb (by decide) rfl
        · refine mX_to 2 (k' := 62) (ls' := [some (.ref l0), some (.int l1), some (.int l2), none]) (st' := [.int 1]) (h' := h14) rfl ?_
          exact mX_retb (by decide) rfl
    · refine mX_to 2 (k' := 65) (ls' := [some (.ref l0), some (.int l1), some (.int l2), none]) (st' := [.int 317, .int l2]) (h' := h11) rfl ?_
      refine mX_br (t := 66) (f := 72) (ls' := [some (.ref l0), some (.int l1), some (.int l2), none]) (st' := []) (h' := h11) rfl ?_ ?_
      · refine mX_to 4 (k' := 70) (ls' := [some (.ref l0), some (.int l1), some (.int l2), none]) (st' := [.int (l1 + 1), .ref l0]) (h' := h11) rfl ?_
        refine mX_ckc (m := mcl (mE mtab d 81 [.ref l0, .int (l1 + 1)] h11) 1 71 [some (.ref l0), some (.int l1), some (.int l2), none] []) rfl ?_
        refine mk_cI ?_
        intro x17 h16
        exact mX_retc rfl
      · refine mX_to 4 (k' := 76) (ls' := [some (.ref l0), some (.int l1), some (.int l2), none]) (st' := [.int (l1 + 1), .ref l0]) (h' := h11) rfl ?_
        refine mX_ckc (m := mcl (mE mtab d 82 [.ref l0, .int (l1 + 1)] h11) 1 77 [some (.ref l0), some (.int l1), some (.int l2), none] []) rfl ?_
        refine mk_cI ?_
        intro x19 h18
        refine mX_to 4 (k' := 81) (ls' := [some (.ref l0), some (.int l1), some (.int l2), some (.int x19)]) (st' := [.int 45, .int l2, .ref l0]) (h' := h18) rfl ?_
        refine mX_br (t := 82) (f := 84) (ls' := [some (.ref l0), some (.int l1), some (.int l2), some (.int x19)]) (st' := [.ref l0]) (h' := h18) rfl ?_ ?_
        · refine mX_to 2 (k' := 90) (ls' := [some (.ref l0), some (.int l1), some (.int l2), some (.int x19)]) (st' := [.int 4, .ref l0]) (h' := h18) rfl ?_
          rfl
        · refine mX_to 2 (k' := 86) (ls' := [some (.ref l0), some (.int l1), some (.int l2), some (.int x19)]) (st' := [.int 315, .int l2, .ref l0]) (h' := h18) rfl ?_
          refine mX_br (t := 87) (f := 89) (ls' := [some (.ref l0), some (.int l1), some (.int l2), some (.int x19)]) (st' := [.ref l0]) (h' := h18) rfl ?_ ?_
          · refine mX_to 2 (k' := 90) (ls' := [some (.ref l0), some (.int l1), some (.int l2), some (.int x19)]) (st' := [.int 5, .ref l0]) (h' := h18) rfl ?_
            rfl
          · refine mX_to 1 (k' := 90) (ls' := [some (.ref l0), some (.int l1), some (.int l2), some (.int x19)]) (st' := [.int 6, .ref l0]) (h' := h18) rfl ?_
            rfl
  · refine mX_to 2 (k' := 42) (ls' := [some (.ref l0), some (.int l1), some (.int l2), none]) (st' := [.int 3, .ref l0]) (h' := h) rfl ?_
    refine mX_ckc (m := mcl (mE mtab d 69 [.ref l0, .int 3] h) 1 43 [some (.ref l0), some (.int l1), some (.int l2), none] []) rfl ?_
    refine mk_cI ?_
    intro x21 h20
    exact mX_retc rfl
theorem D_X4_one_90 (d : Nat) (h : MH) (l0 : Nat) (l1 : Int32) (l2 : Int32) (l3 : Int32) (s0 : Int32) (s1 : Nat) : mX (mE mtab d) KX4_one 90 [some (.ref l0), some (.int l1), some (.int l2), some (.int l3)] [.int s0, .ref s1] h = ck (kd h s1 = 5) (cI (mE mtab d 71 [.ref s1, .int s0, .int 0] h) (fun x23 h22 => ck (mrt 1 l3) (some (.int l3, h22)))) := by
  refine mX_to 1 (k' := 91) (ls' := [some (.ref l0), some (.int l1), some (.int l2), some (.int l3)]) (st' := [.int 0, .int s0, .ref s1]) (h' := h) rfl ?_
  refine mX_ckc (m := mcl (mE mtab d 71 [.ref s1, .int s0, .int 0] h) 1 92 [some (.ref l0), some (.int l1), some (.int l2), some (.int l3)] []) rfl ?_
  refine mk_cI ?_
  intro x23 h22
  refine mX_to 2 (k' := 94) (ls' := [some (.ref l0), some (.int l1), some (.int l2), some (.int l3)]) (st' := [.int l3]) (h' := h22) rfl ?_
  exact mX_retc rfl
theorem D_X4_one (d : Nat) (h : MH) (a0 : Nat) (a1 : Int32) : mE mtab (d + 1) 82 [.ref a0, .int a1] h = ck (kd h a0 = 5) (cI (mE mtab d 68 [.ref a0] h) (fun x2 h1 => (if x2 = 258 then ck (kd h1 a0 = 5) (cI (mE mtab d 72 [.ref a0] h1) (fun x4 h3 => ck (mrt 1 x4) (some (.int x4, h3)))) else cI (mE mtab d 11 [.int x2, .int 307, .int 313] h1) (fun x6 h5 => (if x6 = 0 then (if x2 = 40 then mX (mE mtab d) KX4_one 37 [some (.ref a0), some (.int a1), some (.int x2), none] [] h5 else (if x2 = 45 then mX (mE mtab d) KX4_one 37 [some (.ref a0), some (.int a1), some (.int x2), none] [] h5 else (if x2 = 315 then mX (mE mtab d) KX4_one 37 [some (.ref a0), some (.int a1), some (.int x2), none] [] h5 else (if x2 = 316 then mX (mE mtab d) KX4_one 37 [some (.ref a0), some (.int a1), some (.int x2), none] [] h5 else (if x2 = 317 then mX (mE mtab d) KX4_one 37 [some (.ref a0), some (.int a1), some (.int x2), none] [] h5 else ck (kd h5 a0 = 5) (cI (mE mtab d 69 [.ref a0, .int 1] h5) (fun x8 h7 => ck (mrt 1 x8) (some (.int x8, h7))))))))) else ck (kd h5 a0 = 5) (cI (mE mtab d 73 [.ref a0, .int x2] h5) (fun x10 h9 => ck (mrt 1 x10) (some (.int x10, h9))))))))) := by
  refine mE_eq (q := (yX4_one, cX4_one, 4, (some .boolean), KX4_one)) (C := KX4_one) (ls := [some (.ref a0), some (.int a1), none, none]) rfl rfl rfl rfl ?_
  refine mX_to 1 (k' := 1) (ls' := [some (.ref a0), some (.int a1), none, none]) (st' := [.ref a0]) (h' := h) rfl ?_
  refine mX_ckc (m := mcl (mE mtab d 68 [.ref a0] h) 1 2 [some (.ref a0), some (.int a1), none, none] []) rfl ?_
  refine mk_cI ?_
  intro x2 h1
  refine mX_to 3 (k' := 5) (ls' := [some (.ref a0), some (.int a1), some (.int x2), none]) (st' := [.int 258, .int x2]) (h' := h1) rfl ?_
  refine mX_br (t := 6) (f := 9) (ls' := [some (.ref a0), some (.int a1), some (.int x2), none]) (st' := []) (h' := h1) rfl ?_ ?_
  · refine mX_to 1 (k' := 7) (ls' := [some (.ref a0), some (.int a1), some (.int x2), none]) (st' := [.ref a0]) (h' := h1) rfl ?_
    refine mX_ckc (m := mcl (mE mtab d 72 [.ref a0] h1) 1 8 [some (.ref a0), some (.int a1), some (.int x2), none] []) rfl ?_
    refine mk_cI ?_
    intro x4 h3
    exact mX_retc rfl
  · refine mX_to 3 (k' := 12) (ls' := [some (.ref a0), some (.int a1), some (.int x2), none]) (st' := [.int 313, .int 307, .int x2]) (h' := h1) rfl ?_
    refine mX_cI (o := mE mtab d 11 [.int x2, .int 307, .int 313] h1) (k' := 13) (ls' := [some (.ref a0), some (.int a1), some (.int x2), none]) (st' := []) rfl ?_
    intro x6 h5
    refine mX_br (t := 18) (f := 14) (ls' := [some (.ref a0), some (.int a1), some (.int x2), none]) (st' := []) (h' := h5) rfl ?_ ?_
    · refine mX_to 2 (k' := 20) (ls' := [some (.ref a0), some (.int a1), some (.int x2), none]) (st' := [.int 40, .int x2]) (h' := h5) rfl ?_
      refine mX_br (t := 37) (f := 21) (ls' := [some (.ref a0), some (.int a1), some (.int x2), none]) (st' := []) (h' := h5) rfl ?_ ?_
      · rfl
      · refine mX_to 2 (k' := 23) (ls' := [some (.ref a0), some (.int a1), some (.int x2), none]) (st' := [.int 45, .int x2]) (h' := h5) rfl ?_
        refine mX_br (t := 37) (f := 24) (ls' := [some (.ref a0), some (.int a1), some (.int x2), none]) (st' := []) (h' := h5) rfl ?_ ?_
        · rfl
        · refine mX_to 2 (k' := 26) (ls' := [some (.ref a0), some (.int a1), some (.int x2), none]) (st' := [.int 315, .int x2]) (h' := h5) rfl ?_
          refine mX_br (t := 37) (f := 27) (ls' := [some (.ref a0), some (.int a1), some (.int x2), none]) (st' := []) (h' := h5) rfl ?_ ?_
          · rfl
          · refine mX_to 2 (k' := 29) (ls' := [some (.ref a0), some (.int a1), some (.int x2), none]) (st' := [.int 316, .int x2]) (h' := h5) rfl ?_
            refine mX_br (t := 37) (f := 30) (ls' := [some (.ref a0), some (.int a1), some (.int x2), none]) (st' := []) (h' := h5) rfl ?_ ?_
            · rfl
            · refine mX_to 2 (k' := 32) (ls' := [some (.ref a0), some (.int a1), some (.int x2), none]) (st' := [.int 317, .int x2]) (h' := h5) rfl ?_
              refine mX_br (t := 37) (f := 33) (ls' := [some (.ref a0), some (.int a1), some (.int x2), none]) (st' := []) (h' := h5) rfl ?_ ?_
              · rfl
              · refine mX_to 2 (k' := 35) (ls' := [some (.ref a0), some (.int a1), some (.int x2), none]) (st' := [.int 1, .ref a0]) (h' := h5) rfl ?_
                refine mX_ckc (m := mcl (mE mtab d 69 [.ref a0, .int 1] h5) 1 36 [some (.ref a0), some (.int a1), some (.int x2), none] []) rfl ?_
                refine mk_cI ?_
                intro x8 h7
                exact mX_retc rfl
    · refine mX_to 2 (k' := 16) (ls' := [some (.ref a0), some (.int a1), some (.int x2), none]) (st' := [.int x2, .ref a0]) (h' := h5) rfl ?_
      refine mX_ckc (m := mcl (mE mtab d 73 [.ref a0, .int x2] h5) 1 17 [some (.ref a0), some (.int a1), some (.int x2), none] []) rfl ?_
      refine mk_cI ?_
      intro x10 h9
      exact mX_retc rfl
