/-! EQUATIONS OF THE METHODS (written by wip/gen/dgen.py) -/
theorem D_J6_bitCount_0f7a4 (d : Nat) (h : MH) (a0 : Int32) : mE mtab (d + 1) 259 [.int a0] h = lt_ (a0 - (((a0.toUInt32 >>> ((1 : Int32).toUInt32 &&& Int32.toUInt32 31)).toInt32) &&& 1431655765)) fun v1 => lt_ ((v1 &&& 858993459) + (((v1.toUInt32 >>> ((2 : Int32).toUInt32 &&& Int32.toUInt32 31)).toInt32) &&& 858993459)) fun v2 => lt_ ((v2 + ((v2.toUInt32 >>> ((4 : Int32).toUInt32 &&& Int32.toUInt32 31)).toInt32)) &&& 252645135) fun v3 => lt_ (v3 + ((v3.toUInt32 >>> ((8 : Int32).toUInt32 &&& Int32.toUInt32 31)).toInt32)) fun v4 => lt_ (v4 + ((v4.toUInt32 >>> ((16 : Int32).toUInt32 &&& Int32.toUInt32 31)).toInt32)) fun v5 => some (.int (v5 &&& 63), h) := by
  refine mE_eq (q := (yJ6_bitCount_0f7a4, cJ6_bitCount_0f7a4, 1, (some .int), KJ6_bitCount_0f7a4)) (C := KJ6_bitCount_0f7a4) (ls := [some (.int a0)]) rfl rfl rfl rfl ?_
  refine mX_to 7 (k' := 7) (ls' := [some (.int a0)]) (st' := [.int (a0 - (((a0.toUInt32 >>> ((1 : Int32).toUInt32 &&& Int32.toUInt32 31)).toInt32) &&& 1431655765))]) (h' := h) rfl ?_
  refine lt_gen (X := fun v1 : Int32 => mX (mE mtab d) KJ6_bitCount_0f7a4 7 [some (.int a0)] [.int v1] h) fun v1 => ?_
  refine mX_to 10 (k' := 17) (ls' := [some (.int v1)]) (st' := [.int ((v1 &&& 858993459) + (((v1.toUInt32 >>> ((2 : Int32).toUInt32 &&& Int32.toUInt32 31)).toInt32) &&& 858993459))]) (h' := h) rfl ?_
  refine lt_gen (X := fun v2 : Int32 => mX (mE mtab d) KJ6_bitCount_0f7a4 17 [some (.int v1)] [.int v2] h) fun v2 => ?_
  refine mX_to 8 (k' := 25) (ls' := [some (.int v2)]) (st' := [.int ((v2 + ((v2.toUInt32 >>> ((4 : Int32).toUInt32 &&& Int32.toUInt32 31)).toInt32)) &&& 252645135)]) (h' := h) rfl ?_
  refine lt_gen (X := fun v3 : Int32 => mX (mE mtab d) KJ6_bitCount_0f7a4 25 [some (.int v2)] [.int v3] h) fun v3 => ?_
  refine mX_to 6 (k' := 31) (ls' := [some (.int v3)]) (st' := [.int (v3 + ((v3.toUInt32 >>> ((8 : Int32).toUInt32 &&& Int32.toUInt32 31)).toInt32))]) (h' := h) rfl ?_
  refine lt_gen (X := fun v4 : Int32 => mX (mE mtab d) KJ6_bitCount_0f7a4 31 [some (.int v3)] [.int v4] h) fun v4 => ?_
  refine mX_to 6 (k' := 37) (ls' := [some (.int v4)]) (st' := [.int (v4 + ((v4.toUInt32 >>> ((16 : Int32).toUInt32 &&& Int32.toUInt32 31)).toInt32))]) (h' := h) rfl ?_
  refine lt_gen (X := fun v5 : Int32 => mX (mE mtab d) KJ6_bitCount_0f7a4 37 [some (.int v4)] [.int v5] h) fun v5 => ?_
  refine mX_to 4 (k' := 41) (ls' := [some (.int v5)]) (st' := [.int (v5 &&& 63)]) (h' := h) rfl ?_
  exact mX_reti rfl
theorem D_X2_isCheaper (d : Nat) (h : MH) (a0 : Nat) (a1 : Int32) (a2 : Int32) : mE mtab (d + 1) 260 [.ref a0, .int a1, .int a2] h = ck (kd h a0 = 3) (cI (mE mtab d 258 [.ref a0, .int a1] h) (fun x2 h1 => ck (kd h1 a0 = 3) (cI (mE mtab d 258 [.ref a0, .int a2] h1) (fun x4 h3 => (if x2 < x4 then some (.int 1, h3) else (if x2 = x4 then cI (mE mtab d 259 [.int a1] h3) (fun x6 h5 => cI (mE mtab d 259 [.int a2] h5) (fun x8 h7 => (if x6 < x8 then some (.int 1, h7) else some (.int 0, h7)))) else some (.int 0, h3))))))) := by
  refine mE_eq (q := (yX2_isCheaper, cX2_isCheaper, 5, (some .boolean), KX2_isCheaper)) (C := KX2_isCheaper) (ls := [some (.ref a0), some (.int a1), some (.int a2), none, none]) rfl rfl rfl rfl ?_
  refine mX_to 2 (k' := 2) (ls' := [some (.ref a0), some (.int a1), some (.int a2), none, none]) (st' := [.int a1, .ref a0]) (h' := h) rfl ?_
  refine mX_ckc (m := mcl (mE mtab d 258 [.ref a0, .int a1] h) 1 3 [some (.ref a0), some (.int a1), some (.int a2), none, none] []) rfl ?_
  refine mk_cI ?_
  intro x2 h1
  refine mX_to 3 (k' := 6) (ls' := [some (.ref a0), some (.int a1), some (.int a2), some (.int x2), none]) (st' := [.int a2, .ref a0]) (h' := h1) rfl ?_
  refine mX_ckc (m := mcl (mE mtab d 258 [.ref a0, .int a2] h1) 1 7 [some (.ref a0), some (.int a1), some (.int a2), some (.int x2), none] []) rfl ?_
  refine mk_cI ?_
  intro x4 h3
  refine mX_to 3 (k' := 10) (ls' := [some (.ref a0), some (.int a1), some (.int a2), some (.int x2), some (.int x4)]) (st' := [.int x4, .int x2]) (h' := h3) rfl ?_
  refine mX_br (t := 19) (f := 11) (ls' := [some (.ref a0), some (.int a1), some (.int a2), some (.int x2), some (.int x4)]) (st' := []) (h' := h3) rfl ?_ ?_
  · refine mX_to 2 (k' := 22) (ls' := [some (.ref a0), some (.int a1), some (.int a2), some (.int x2), some (.int x4)]) (st' := [.int 1]) (h' := h3) rfl ?_
    exact mX_retb (by decide) rfl
  · refine mX_to 2 (k' := 13) (ls' := [some (.ref a0), some (.int a1), some (.int a2), some (.int x2), some (.int x4)]) (st' := [.int x4, .int x2]) (h' := h3) rfl ?_
    refine mX_br (t := 14) (f := 21) (ls' := [some (.ref a0), some (.int a1), some (.int a2), some (.int x2), some (.int x4)]) (st' := []) (h' := h3) rfl ?_ ?_
    · refine mX_to 1 (k' := 15) (ls' := [some (.ref a0), some (.int a1), some (.int a2), some (.int x2), some (.int x4)]) (st' := [.int a1]) (h' := h3) rfl ?_
      refine mX_cI (o := mE mtab d 259 [.int a1] h3) (k' := 16) (ls' := [some (.ref a0), some (.int a1), some (.int a2), some (.int x2), some (.int x4)]) (st' := []) rfl ?_
      intro x6 h5
      refine mX_to 1 (k' := 17) (ls' := [some (.ref a0), some (.int a1), some (.int a2), some (.int x2), some (.int x4)]) (st' := [.int a2, .int x6]) (h' := h5) rfl ?_
      refine mX_cI (o := mE mtab d 259 [.int a2] h5) (k' := 18) (ls' := [some (.ref a0), some (.int a1), some (.int a2), some (.int x2), some (.int x4)]) (st' := [.int x6]) rfl ?_
      intro x8 h7
      refine mX_br (t := 19) (f := 21) (ls' := [some (.ref a0), some (.int a1), some (.int a2), some (.int x2), some (.int x4)]) (st' := []) (h' := h7) rfl ?_ ?_
      · refine mX_to 2 (k' := 22) (ls' := [some (.ref a0), some (.int a1), some (.int a2), some (.int x2), some (.int x4)]) (st' := [.int 1]) (h' := h7) rfl ?_
        exact mX_retb (by decide) rfl
      · refine mX_to 1 (k' := 22) (ls' := [some (.ref a0), some (.int a1), some (.int a2), some (.int x2), some (.int x4)]) (st' := [.int 0]) (h' := h7) rfl ?_
        exact mX_retb (by decide) rfl
    · refine mX_to 1 (k' := 22) (ls' := [some (.ref a0), some (.int a1), some (.int a2), some (.int x2), some (.int x4)]) (st' := [.int 0]) (h' := h3) rfl ?_
      exact mX_retb (by decide) rfl
theorem D_X2_tipSeated_9 (d : Nat) (h : MH) (l0 : Nat) (l1 : Int32) (l2 : Int32) (l3 : Int32) (l4 : Int32) (l5 : Int32) : mX (mE mtab d) KX2_tipSeated 9 [some (.ref l0), some (.int l1), some (.int l2), some (.int l3), some (.int l4), some (.int l5)] [] h = (if l5 < 0 then some (.int l4, h) else cI (mE mtab d 257 [.int l1, .int l5] h) (fun x3 h2 => (if x3 = 0 then mX (mE mtab d) KX2_tipSeated 40 [some (.ref l0), some (.int l1), some (.int l2), some (.int l3), some (.int l4), some (.int l5)] [] h2 else ck (kd h2 l0 = 3) (ck (kd h2 (gR h2 l0 2) = 20 ∧ ib l5 (ln h2 (gR h2 l0 2))) (lt_ (sI h2 (gR h2 l0 2) (ix l5) (l3 - l3 / 9 * 9)) fun h4 => lt_ (l3 / 9) fun v5 => ck (kd h4 l0 = 3) (ck ((kd h4 (gR h4 l0 0) = 20 ∨ kd h4 (gR h4 l0 0) = 24) ∧ ib l5 (ln h4 (gR h4 l0 0))) (ck (kd h4 l0 = 3) (ck ((kd h4 (gR h4 l0 2) = 20 ∨ kd h4 (gR h4 l0 2) = 24) ∧ ib l5 (ln h4 (gR h4 l0 2))) (lt_ (l4 + ((gI h4 (gR h4 l0 0) (ix l5)) * ((gI h4 (gR h4 l0 2) (ix l5)) - 4))) fun v6 => mX (mE mtab d) KX2_tipSeated 40 [some (.ref l0), some (.int l1), some (.int l2), some (.int v5), some (.int v6), some (.int l5)] [] h4))))))))) := by
  refine mX_to 1 (k' := 10) (ls' := [some (.ref l0), some (.int l1), some (.int l2), some (.int l3), some (.int l4), some (.int l5)]) (st' := [.int l5]) (h' := h) rfl ?_
  refine mX_br (t := 42) (f := 11) (ls' := [some (.ref l0), some (.int l1), some (.int l2), some (.int l3), some (.int l4), some (.int l5)]) (st' := []) (h' := h) rfl ?_ ?_
  · refine mX_to 1 (k' := 43) (ls' := [some (.ref l0), some (.int l1), some (.int l2), some (.int l3), some (.int l4), some (.int l5)]) (st' := [.int l4]) (h' := h) rfl ?_
    exact mX_reti rfl
  · refine mX_to 2 (k' := 13) (ls' := [some (.ref l0), some (.int l1), some (.int l2), some (.int l3), some (.int l4), some (.int l5)]) (st' := [.int l5, .int l1]) (h' := h) rfl ?_
    refine mX_cI (o := mE mtab d 257 [.int l1, .int l5] h) (k' := 14) (ls' := [some (.ref l0), some (.int l1), some (.int l2), some (.int l3), some (.int l4), some (.int l5)]) (st' := []) rfl ?_
    intro x3 h2
    refine mX_br (t := 40) (f := 15) (ls' := [some (.ref l0), some (.int l1), some (.int l2), some (.int l3), some (.int l4), some (.int l5)]) (st' := []) (h' := h2) rfl ?_ ?_
    · rfl
    · refine mX_to 1 (k' := 16) (ls' := [some (.ref l0), some (.int l1), some (.int l2), some (.int l3), some (.int l4), some (.int l5)]) (st' := [.ref l0]) (h' := h2) rfl ?_
      refine mX_ck (k' := 17) (ls' := [some (.ref l0), some (.int l1), some (.int l2), some (.int l3), some (.int l4), some (.int l5)]) (st' := [.ref (gR h2 l0 2)]) (h' := h2) rfl ?_
      refine mX_to 3 (k' := 20) (ls' := [some (.ref l0), some (.int l1), some (.int l2), some (.int l3), some (.int l4), some (.int l5)]) (st' := [.int 9, .int l3, .int l5, .ref (gR h2 l0 2)]) (h' := h2) rfl ?_
      refine mX_ckt (c := ¬ (9 : Int32) = 0) (k' := 21) (ls' := [some (.ref l0), some (.int l1), some (.int l2), some (.int l3), some (.int l4), some (.int l5)]) (st' := [.int (l3 - l3 / 9 * 9), .int l5, .ref (gR h2 l0 2)]) (h' := h2) (by decide) rfl ?_
      refine mX_ck (k' := 22) (ls' := [some (.ref l0), some (.int l1), some (.int l2), some (.int l3), some (.int l4), some (.int l5)]) (st' := []) (h' := (sI h2 (gR h2 l0 2) (ix l5) (l3 - l3 / 9 * 9))) rfl ?_
      refine lt_gen (X := fun h4 : MH => mX (mE mtab d) KX2_tipSeated 22 [some (.ref l0), some (.int l1), some (.int l2), some (.int l3), some (.int l4), some (.int l5)] [] h4) fun h4 => ?_
      refine mX_to 2 (k' := 24) (ls' := [some (.ref l0), some (.int l1), some (.int l2), some (.int l3), some (.int l4), some (.int l5)]) (st' := [.int 9, .int l3]) (h' := h4) rfl ?_
      refine mX_ckt (c := ¬ (9 : Int32) = 0) (k' := 25) (ls' := [some (.ref l0), some (.int l1), some (.int l2), some (.int l3), some (.int l4), some (.int l5)]) (st' := [.int (l3 / 9)]) (h' := h4) (by decide) rfl ?_
      refine lt_gen (X := fun v5 : Int32 => mX (mE mtab d) KX2_tipSeated 25 [some (.ref l0), some (.int l1), some (.int l2), some (.int l3), some (.int l4), some (.int l5)] [.int v5] h4) fun v5 => ?_
      refine mX_to 3 (k' := 28) (ls' := [some (.ref l0), some (.int l1), some (.int l2), some (.int v5), some (.int l4), some (.int l5)]) (st' := [.ref l0, .int l4]) (h' := h4) rfl ?_
      refine mX_ck (k' := 29) (ls' := [some (.ref l0), some (.int l1), some (.int l2), some (.int v5), some (.int l4), some (.int l5)]) (st' := [.ref (gR h4 l0 0), .int l4]) (h' := h4) rfl ?_
      refine mX_to 1 (k' := 30) (ls' := [some (.ref l0), some (.int l1), some (.int l2), some (.int v5), some (.int l4), some (.int l5)]) (st' := [.int l5, .ref (gR h4 l0 0), .int l4]) (h' := h4) rfl ?_
      refine mX_ck (k' := 31) (ls' := [some (.ref l0), some (.int l1), some (.int l2), some (.int v5), some (.int l4), some (.int l5)]) (st' := [.int (gI h4 (gR h4 l0 0) (ix l5)), .int l4]) (h' := h4) rfl ?_
      refine mX_to 1 (k' := 32) (ls' := [some (.ref l0), some (.int l1), some (.int l2), some (.int v5), some (.int l4), some (.int l5)]) (st' := [.ref l0, .int (gI h4 (gR h4 l0 0) (ix l5)), .int l4]) (h' := h4) rfl ?_
      refine mX_ck (k' := 33) (ls' := [some (.ref l0), some (.int l1), some (.int l2), some (.int v5), some (.int l4), some (.int l5)]) (st' := [.ref (gR h4 l0 2), .int (gI h4 (gR h4 l0 0) (ix l5)), .int l4]) (h' := h4) rfl ?_
      refine mX_to 1 (k' := 34) (ls' := [some (.ref l0), some (.int l1), some (.int l2), some (.int v5), some (.int l4), some (.int l5)]) (st' := [.int l5, .ref (gR h4 l0 2), .int (gI h4 (gR h4 l0 0) (ix l5)), .int l4]) (h' := h4) rfl ?_
      refine mX_ck (k' := 35) (ls' := [some (.ref l0), some (.int l1), some (.int l2), some (.int v5), some (.int l4), some (.int l5)]) (st' := [.int (gI h4 (gR h4 l0 2) (ix l5)), .int (gI h4 (gR h4 l0 0) (ix l5)), .int l4]) (h' := h4) rfl ?_
      refine mX_to 4 (k' := 39) (ls' := [some (.ref l0), some (.int l1), some (.int l2), some (.int v5), some (.int l4), some (.int l5)]) (st' := [.int (l4 + ((gI h4 (gR h4 l0 0) (ix l5)) * ((gI h4 (gR h4 l0 2) (ix l5)) - 4)))]) (h' := h4) rfl ?_
      refine lt_gen (X := fun v6 : Int32 => mX (mE mtab d) KX2_tipSeated 39 [some (.ref l0), some (.int l1), some (.int l2), some (.int v5), some (.int l4), some (.int l5)] [.int v6] h4) fun v6 => ?_
      refine mX_to 1 (k' := 40) (ls' := [some (.ref l0), some (.int l1), some (.int l2), some (.int v5), some (.int v6), some (.int l5)]) (st' := []) (h' := h4) rfl ?_
      rfl
theorem D_X2_tipSeated_40 (d : Nat) (h : MH) (l0 : Nat) (l1 : Int32) (l2 : Int32) (l3 : Int32) (l4 : Int32) (l5 : Int32) : mX (mE mtab d) KX2_tipSeated 40 [some (.ref l0), some (.int l1), some (.int l2), some (.int l3), some (.int l4), some (.int l5)] [] h = mX (mE mtab d) KX2_tipSeated 9 [some (.ref l0), some (.int l1), some (.int l2), some (.int l3), some (.int l4), some (.int (l5 + (-1)))] [] h := by
  refine mX_to 2 (k' := 9) (ls' := [some (.ref l0), some (.int l1), some (.int l2), some (.int l3), some (.int l4), some (.int (l5 + (-1)))]) (st' := []) (h' := h) rfl ?_
  rfl
theorem D_X2_tipSeated (d : Nat) (h : MH) (a0 : Nat) (a1 : Int32) (a2 : Int32) : mE mtab (d + 1) 261 [.ref a0, .int a1, .int a2] h = ck (kd h a0 = 3) (lt_ ((gI h a0 3) - 1) fun v1 => mX (mE mtab d) KX2_tipSeated 9 [some (.ref a0), some (.int a1), some (.int a2), some (.int a2), some (.int 0), some (.int v1)] [] h) := by
  refine mE_eq (q := (yX2_tipSeated, cX2_tipSeated, 6, (some .int), KX2_tipSeated)) (C := KX2_tipSeated) (ls := [some (.ref a0), some (.int a1), some (.int a2), none, none, none]) rfl rfl rfl rfl ?_
  refine mX_to 5 (k' := 5) (ls' := [some (.ref a0), some (.int a1), some (.int a2), some (.int a2), some (.int 0), none]) (st' := [.ref a0]) (h' := h) rfl ?_
  refine mX_ck (k' := 6) (ls' := [some (.ref a0), some (.int a1), some (.int a2), some (.int a2), some (.int 0), none]) (st' := [.int (gI h a0 3)]) (h' := h) rfl ?_
  refine mX_to 2 (k' := 8) (ls' := [some (.ref a0), some (.int a1), some (.int a2), some (.int a2), some (.int 0), none]) (st' := [.int ((gI h a0 3) - 1)]) (h' := h) rfl ?_
  refine lt_gen (X := fun v1 : Int32 => mX (mE mtab d) KX2_tipSeated 8 [some (.ref a0), some (.int a1), some (.int a2), some (.int a2), some (.int 0), none] [.int v1] h) fun v1 => ?_
  refine mX_to 1 (k' := 9) (ls' := [some (.ref a0), some (.int a1), some (.int a2), some (.int a2), some (.int 0), some (.int v1)]) (st' := []) (h' := h) rfl ?_
  rfl
theorem D_X2_seat_7 (d : Nat) (h : MH) (l0 : Nat) (l1 : Int32) (l2 : Int32) (l3 : Int32) (l4 : Int32) : mX (mE mtab d) KX2_seat 7 [some (.ref l0), some (.int l1), some (.int l2), some (.int l3), some (.int l4)] [] h = (if l4 < l3 then ck (kd h l0 = 3) (cI (mE mtab d 261 [.ref l0, .int l1, .int l4] h) (fun x5 h4 => (if (l2 + x5) = 0 then some (.int 1, h4) else mX (mE mtab d) KX2_seat 7 [some (.ref l0), some (.int l1), some (.int l2), some (.int l3), some (.int (l4 + 1))] [] h4))) else some (.int 0, h)) := by
  refine mX_to 2 (k' := 9) (ls' := [some (.ref l0), some (.int l1), some (.int l2), some (.int l3), some (.int l4)]) (st' := [.int l3, .int l4]) (h' := h) rfl ?_
  refine mX_br (t := 10) (f := 21) (ls' := [some (.ref l0), some (.int l1), some (.int l2), some (.int l3), some (.int l4)]) (st' := []) (h' := h) rfl ?_ ?_
  · refine mX_to 4 (k' := 14) (ls' := [some (.ref l0), some (.int l1), some (.int l2), some (.int l3), some (.int l4)]) (st' := [.int l4, .int l1, .ref l0, .int l2]) (h' := h) rfl ?_
    refine mX_ckc (m := mcl (mE mtab d 261 [.ref l0, .int l1, .int l4] h) 1 15 [some (.ref l0), some (.int l1), some (.int l2), some (.int l3), some (.int l4)] [.int l2]) rfl ?_
    refine mk_cI ?_
    intro x5 h4
    refine mX_to 1 (k' := 16) (ls' := [some (.ref l0), some (.int l1), some (.int l2), some (.int l3), some (.int l4)]) (st' := [.int (l2 + x5)]) (h' := h4) rfl ?_
    refine mX_br (t := 17) (f := 19) (ls' := [some (.ref l0), some (.int l1), some (.int l2), some (.int l3), some (.int l4)]) (st' := []) (h' := h4) rfl ?_ ?_
    · refine mX_to 1 (k' := 18) (ls' := [some (.ref l0), some (.int l1), some (.int l2), some (.int l3), some (.int l4)]) (st' := [.int 1]) (h' := h4) rfl ?_
      exact mX_retb (by decide) rfl
    · refine mX_to 2 (k' := 7) (ls' := [some (.ref l0), some (.int l1), some (.int l2), some (.int l3), some (.int (l4 + 1))]) (st' := []) (h' := h4) rfl ?_
      rfl
  · refine mX_to 1 (k' := 22) (ls' := [some (.ref l0), some (.int l1), some (.int l2), some (.int l3), some (.int l4)]) (st' := [.int 0]) (h' := h) rfl ?_
    exact mX_retb (by decide) rfl
theorem D_X2_seat (d : Nat) (h : MH) (a0 : Nat) (a1 : Int32) (a2 : Int32) : mE mtab (d + 1) 262 [.ref a0, .int a1, .int a2] h = cI (mE mtab d 259 [.int a1] h) (fun x2 h1 => ck ((kd h1 2 = 20 ∨ kd h1 2 = 24) ∧ ib x2 (ln h1 2)) (lt_ (gI h1 2 (ix x2)) fun v3 => mX (mE mtab d) KX2_seat 7 [some (.ref a0), some (.int a1), some (.int a2), some (.int v3), some (.int 0)] [] h1)) := by
  refine mE_eq (q := (yX2_seat, cX2_seat, 5, (some .boolean), KX2_seat)) (C := KX2_seat) (ls := [some (.ref a0), some (.int a1), some (.int a2), none, none]) rfl rfl rfl rfl ?_
  refine mX_to 2 (k' := 2) (ls' := [some (.ref a0), some (.int a1), some (.int a2), none, none]) (st' := [.int a1, .ref 2]) (h' := h) rfl ?_
  refine mX_cI (o := mE mtab d 259 [.int a1] h) (k' := 3) (ls' := [some (.ref a0), some (.int a1), some (.int a2), none, none]) (st' := [.ref 2]) rfl ?_
  intro x2 h1
  refine mX_ck (k' := 4) (ls' := [some (.ref a0), some (.int a1), some (.int a2), none, none]) (st' := [.int (gI h1 2 (ix x2))]) (h' := h1) rfl ?_
  refine lt_gen (X := fun v3 : Int32 => mX (mE mtab d) KX2_seat 4 [some (.ref a0), some (.int a1), some (.int a2), none, none] [.int v3] h1) fun v3 => ?_
  refine mX_to 3 (k' := 7) (ls' := [some (.ref a0), some (.int a1), some (.int a2), some (.int v3), some (.int 0)]) (st' := []) (h' := h1) rfl ?_
  rfl
theorem D_X2_cheapest_4 (d : Nat) (h : MH) (l0 : Nat) (l1 : Int32) (l2 : Int32) (l3 : Int32) : mX (mE mtab d) KX2_cheapest 4 [some (.ref l0), some (.int l1), some (.int l2), some (.int l3)] [] h = ck (kd h l0 = 3) ((if l3 < (1 <<< ((gI h l0 3) &&& 31)) then (if l2 = (-1) then mX (mE mtab d) KX2_cheapest 18 [some (.ref l0), some (.int l1), some (.int l2), some (.int l3)] [] h else ck (kd h l0 = 3) (cI (mE mtab d 260 [.ref l0, .int l3, .int l2] h) (fun x2 h1 => (if x2 = 0 then mX (mE mtab d) KX2_cheapest 25 [some (.ref l0), some (.int l1), some (.int l2), some (.int l3)] [] h1 else mX (mE mtab d) KX2_cheapest 18 [some (.ref l0), some (.int l1), some (.int l2), some (.int l3)] [] h1)))) else (if l2 = (-1) then some (.int l2, h) else ck (kd h l0 = 3) (cI (mE mtab d 262 [.ref l0, .int l2, .int l1] h) (fun x4 h3 => some (.int l2, h3)))))) := by
  refine mX_to 3 (k' := 7) (ls' := [some (.ref l0), some (.int l1), some (.int l2), some (.int l3)]) (st' := [.ref l0, .int 1, .int l3]) (h' := h) rfl ?_
  refine mX_ck (k' := 8) (ls' := [some (.ref l0), some (.int l1), some (.int l2), some (.int l3)]) (st' := [.int (gI h l0 3), .int 1, .int l3]) (h' := h) rfl ?_
  refine mX_to 1 (k' := 9) (ls' := [some (.ref l0), some (.int l1), some (.int l2), some (.int l3)]) (st' := [.int (1 <<< ((gI h l0 3) &&& 31)), .int l3]) (h' := h) rfl ?_
  refine mX_br (t := 10) (f := 27) (ls' := [some (.ref l0), some (.int l1), some (.int l2), some (.int l3)]) (st' := []) (h' := h) rfl ?_ ?_
  · refine mX_to 2 (k' := 12) (ls' := [some (.ref l0), some (.int l1), some (.int l2), some (.int l3)]) (st' := [.int (-1), .int l2]) (h' := h) rfl ?_
    refine mX_br (t := 18) (f := 13) (ls' := [some (.ref l0), some (.int l1), some (.int l2), some (.int l3)]) (st' := []) (h' := h) rfl ?_ ?_
    · rfl
    · refine mX_to 3 (k' := 16) (ls' := [some (.ref l0), some (.int l1), some (.int l2), some (.int l3)]) (st' := [.int l2, .int l3, .ref l0]) (h' := h) rfl ?_
      refine mX_ckc (m := mcl (mE mtab d 260 [.ref l0, .int l3, .int l2] h) 1 17 [some (.ref l0), some (.int l1), some (.int l2), some (.int l3)] []) rfl ?_
      refine mk_cI ?_
      intro x2 h1
      refine mX_br (t := 25) (f := 18) (ls' := [some (.ref l0), some (.int l1), some (.int l2), some (.int l3)]) (st' := []) (h' := h1) rfl ?_ ?_
      · rfl
      · rfl
  · refine mX_to 2 (k' := 29) (ls' := [some (.ref l0), some (.int l1), some (.int l2), some (.int l3)]) (st' := [.int (-1), .int l2]) (h' := h) rfl ?_
    refine mX_br (t := 35) (f := 30) (ls' := [some (.ref l0), some (.int l1), some (.int l2), some (.int l3)]) (st' := []) (h' := h) rfl ?_ ?_
    · refine mX_to 1 (k' := 36) (ls' := [some (.ref l0), some (.int l1), some (.int l2), some (.int l3)]) (st' := [.int l2]) (h' := h) rfl ?_
      exact mX_reti rfl
    · refine mX_to 3 (k' := 33) (ls' := [some (.ref l0), some (.int l1), some (.int l2), some (.int l3)]) (st' := [.int l1, .int l2, .ref l0]) (h' := h) rfl ?_
      refine mX_ckc (m := mcl (mE mtab d 262 [.ref l0, .int l2, .int l1] h) 1 34 [some (.ref l0), some (.int l1), some (.int l2), some (.int l3)] []) rfl ?_
      refine mk_cI ?_
      intro x4 h3
      refine mX_to 2 (k' := 36) (ls' := [some (.ref l0), some (.int l1), some (.int l2), some (.int l3)]) (st' := [.int l2]) (h' := h3) rfl ?_
      exact mX_reti rfl
theorem D_X2_cheapest_18 (d : Nat) (h : MH) (l0 : Nat) (l1 : Int32) (l2 : Int32) (l3 : Int32) : mX (mE mtab d) KX2_cheapest 18 [some (.ref l0), some (.int l1), some (.int l2), some (.int l3)] [] h = ck (kd h l0 = 3) (cI (mE mtab d 262 [.ref l0, .int l3, .int l1] h) (fun x6 h5 => (if x6 = 0 then mX (mE mtab d) KX2_cheapest 25 [some (.ref l0), some (.int l1), some (.int l2), some (.int l3)] [] h5 else mX (mE mtab d) KX2_cheapest 25 [some (.ref l0), some (.int l1), some (.int l3), some (.int l3)] [] h5))) := by
  refine mX_to 3 (k' := 21) (ls' := [some (.ref l0), some (.int l1), some (.int l2), some (.int l3)]) (st' := [.int l1, .int l3, .ref l0]) (h' := h) rfl ?_
  refine mX_ckc (m := mcl (mE mtab d 262 [.ref l0, .int l3, .int l1] h) 1 22 [some (.ref l0), some (.int l1), some (.int l2), some (.int l3)] []) rfl ?_
  refine mk_cI ?_
  intro x6 h5
  refine mX_br (t := 25) (f := 23) (ls' := [some (.ref l0), some (.int l1), some (.int l2), some (.int l3)]) (st' := []) (h' := h5) rfl ?_ ?_
  · rfl
  · refine mX_to 2 (k' := 25) (ls' := [some (.ref l0), some (.int l1), some (.int l3), some (.int l3)]) (st' := []) (h' := h5) rfl ?_
    rfl
theorem D_X2_cheapest_25 (d : Nat) (h : MH) (l0 : Nat) (l1 : Int32) (l2 : Int32) (l3 : Int32) : mX (mE mtab d) KX2_cheapest 25 [some (.ref l0), some (.int l1), some (.int l2), some (.int l3)] [] h = mX (mE mtab d) KX2_cheapest 4 [some (.ref l0), some (.int l1), some (.int l2), some (.int (l3 + 1))] [] h := by
  refine mX_to 2 (k' := 4) (ls' := [some (.ref l0), some (.int l1), some (.int l2), some (.int (l3 + 1))]) (st' := []) (h' := h) rfl ?_
  rfl
theorem D_X2_cheapest (d : Nat) (h : MH) (a0 : Nat) (a1 : Int32) : mE mtab (d + 1) 263 [.ref a0, .int a1] h = mX (mE mtab d) KX2_cheapest 4 [some (.ref a0), some (.int a1), some (.int (-1)), some (.int 0)] [] h := by
  refine mE_eq (q := (yX2_cheapest, cX2_cheapest, 4, (some .int), KX2_cheapest)) (C := KX2_cheapest) (ls := [some (.ref a0), some (.int a1), none, none]) rfl rfl rfl rfl ?_
  refine mX_to 4 (k' := 4) (ls' := [some (.ref a0), some (.int a1), some (.int (-1)), some (.int 0)]) (st' := []) (h' := h) rfl ?_
  rfl
theorem D_X10_paid (d : Nat) (h : MH) (a0 : Nat) (a1 : Int32) : mE mtab (d + 1) 264 [.ref a0, .int a1] h = ck (kd h a0 = 11) (ck (kd h (gR h a0 0) = 1) (ck (kd h a0 = 11) (ck (kd h (gR h a0 0) = 1) (ck (kd h (gR h (gR h a0 0) 0) = 10) (cI (mE mtab d 139 [.ref (gR h (gR h a0 0) 0)] h) (fun x2 h1 => ck (kd h1 (gR h (gR h a0 0) 2) = 3) (cI (mE mtab d 263 [.ref (gR h (gR h a0 0) 2), .int x2] h1) (fun x4 h3 => (if x4 = (-1) then some (.int (-1), h3) else (if a1 = 0 then some (.int x4, h3) else ck (kd h3 a0 = 11) (ck (kd h3 (gR h3 a0 0) = 1) (ck (kd h3 (gR h3 (gR h3 a0 0) 2) = 3) (cI (mE mtab d 258 [.ref (gR h3 (gR h3 a0 0) 2), .int x4] h3) (fun x6 h5 => some (.int x6, h5))))))))))))))) := by
  refine mE_eq (q := (yX10_paid, cX10_paid, 3, (some .int), KX10_paid)) (C := KX10_paid) (ls := [some (.ref a0), some (.int a1), none]) rfl rfl rfl rfl ?_
  refine mX_to 1 (k' := 1) (ls' := [some (.ref a0), some (.int a1), none]) (st' := [.ref a0]) (h' := h) rfl ?_
  refine mX_ck (k' := 2) (ls' := [some (.ref a0), some (.int a1), none]) (st' := [.ref (gR h a0 0)]) (h' := h) rfl ?_
  refine mX_ck (k' := 3) (ls' := [some (.ref a0), some (.int a1), none]) (st' := [.ref (gR h (gR h a0 0) 2)]) (h' := h) rfl ?_
  refine mX_to 1 (k' := 4) (ls' := [some (.ref a0), some (.int a1), none]) (st' := [.ref a0, .ref (gR h (gR h a0 0) 2)]) (h' := h) rfl ?_
  refine mX_ck (k' := 5) (ls' := [some (.ref a0), some (.int a1), none]) (st' := [.ref (gR h a0 0), .ref (gR h (gR h a0 0) 2)]) (h' := h) rfl ?_
  refine mX_ck (k' := 6) (ls' := [some (.ref a0), some (.int a1), none]) (st' := [.ref (gR h (gR h a0 0) 0), .ref (gR h (gR h a0 0) 2)]) (h' := h) rfl ?_
  refine mX_ckc (m := mcl (mE mtab d 139 [.ref (gR h (gR h a0 0) 0)] h) 1 7 [some (.ref a0), some (.int a1), none] [.ref (gR h (gR h a0 0) 2)]) rfl ?_
  refine mk_cI ?_
  intro x2 h1
  refine mX_ckc (m := mcl (mE mtab d 263 [.ref (gR h (gR h a0 0) 2), .int x2] h1) 1 8 [some (.ref a0), some (.int a1), none] []) rfl ?_
  refine mk_cI ?_
  intro x4 h3
  refine mX_to 3 (k' := 11) (ls' := [some (.ref a0), some (.int a1), some (.int x4)]) (st' := [.int (-1), .int x4]) (h' := h3) rfl ?_
  refine mX_br (t := 12) (f := 14) (ls' := [some (.ref a0), some (.int a1), some (.int x4)]) (st' := []) (h' := h3) rfl ?_ ?_
  · refine mX_to 1 (k' := 13) (ls' := [some (.ref a0), some (.int a1), some (.int x4)]) (st' := [.int (-1)]) (h' := h3) rfl ?_
    exact mX_reti rfl
  · refine mX_to 1 (k' := 15) (ls' := [some (.ref a0), some (.int a1), some (.int x4)]) (st' := [.int a1]) (h' := h3) rfl ?_
    refine mX_br (t := 22) (f := 16) (ls' := [some (.ref a0), some (.int a1), some (.int x4)]) (st' := []) (h' := h3) rfl ?_ ?_
    · refine mX_to 1 (k' := 23) (ls' := [some (.ref a0), some (.int a1), some (.int x4)]) (st' := [.int x4]) (h' := h3) rfl ?_
      exact mX_reti rfl
    · refine mX_to 1 (k' := 17) (ls' := [some (.ref a0), some (.int a1), some (.int x4)]) (st' := [.ref a0]) (h' := h3) rfl ?_
      refine mX_ck (k' := 18) (ls' := [some (.ref a0), some (.int a1), some (.int x4)]) (st' := [.ref (gR h3 a0 0)]) (h' := h3) rfl ?_
      refine mX_ck (k' := 19) (ls' := [some (.ref a0), some (.int a1), some (.int x4)]) (st' := [.ref (gR h3 (gR h3 a0 0) 2)]) (h' := h3) rfl ?_
      refine mX_to 1 (k' := 20) (ls' := [some (.ref a0), some (.int a1), some (.int x4)]) (st' := [.int x4, .ref (gR h3 (gR h3 a0 0) 2)]) (h' := h3) rfl ?_
      refine mX_ckc (m := mcl (mE mtab d 258 [.ref (gR h3 (gR h3 a0 0) 2), .int x4] h3) 1 21 [some (.ref a0), some (.int a1), some (.int x4)] []) rfl ?_
      refine mk_cI ?_
      intro x6 h5
      refine mX_to 1 (k' := 23) (ls' := [some (.ref a0), some (.int a1), some (.int x4)]) (st' := [.int x6]) (h' := h5) rfl ?_
      exact mX_reti rfl
theorem D_X11_areStands_7 (d : Nat) (h : MH) (l0 : Nat) (l1 : Int32) (l2 : Int32) (l3 : Int32) (l4 : Int32) : mX (mE mtab d) KX11_areStands 7 [some (.ref l0), some (.int l1), some (.int l2), some (.int l3), some (.int l4)] [] h = ck (kd h l0 = 12) (ck ((kd h (gR h l0 0) = 20 ∨ kd h (gR h l0 0) = 24) ∧ ib (1 : Int32) (ln h (gR h l0 0))) ((if l4 < (gI h (gR h l0 0) (ix (1 : Int32))) then ck (kd h l0 = 12) (ck (kd h (gR h l0 29) = 20 ∧ ib l4 (ln h (gR h l0 29))) (lt_ (sI h (gR h l0 29) (ix l4) (l2 - l2 / 10 * 10)) fun h3 => lt_ (l2 / 10) fun v4 => ck (kd h3 l0 = 12) (ck ((kd h3 (gR h3 l0 29) = 20 ∨ kd h3 (gR h3 l0 29) = 24) ∧ ib l4 (ln h3 (gR h3 l0 29))) ((if (gI h3 (gR h3 l0 29) (ix l4)) < 9 then ck (kd h3 l0 = 12) (ck ((kd h3 (gR h3 l0 0) = 20 ∨ kd h3 (gR h3 l0 0) = 24) ∧ ib (34 + (2 * l4)) (ln h3 (gR h3 l0 0))) (ck (kd h3 l0 = 12) (ck ((kd h3 (gR h3 l0 29) = 20 ∨ kd h3 (gR h3 l0 29) = 24) ∧ ib l4 (ln h3 (gR h3 l0 29))) (mX (mE mtab d) KX11_areStands 48 [some (.ref l0), some (.int l1), some (.int v4), some (.int l3), some (.int l4)] [.int ((gI h3 (gR h3 l0 0) (ix (34 + (2 * l4)))) * ((gI h3 (gR h3 l0 29) (ix l4)) - 4)), .int l3] h3)))) else mX (mE mtab d) KX11_areStands 48 [some (.ref l0), some (.int l1), some (.int v4), some (.int l3), some (.int l4)] [.int 0, .int l3] h3))))) else (if l3 = 0 then some (.int 1, h) else some (.int 0, h))))) := by
  refine mX_to 2 (k' := 9) (ls' := [some (.ref l0), some (.int l1), some (.int l2), some (.int l3), some (.int l4)]) (st' := [.ref l0, .int l4]) (h' := h) rfl ?_
  refine mX_ck (k' := 10) (ls' := [some (.ref l0), some (.int l1), some (.int l2), some (.int l3), some (.int l4)]) (st' := [.ref (gR h l0 0), .int l4]) (h' := h) rfl ?_
  refine mX_to 1 (k' := 11) (ls' := [some (.ref l0), some (.int l1), some (.int l2), some (.int l3), some (.int l4)]) (st' := [.int 1, .ref (gR h l0 0), .int l4]) (h' := h) rfl ?_
  refine mX_ck (k' := 12) (ls' := [some (.ref l0), some (.int l1), some (.int l2), some (.int l3), some (.int l4)]) (st' := [.int (gI h (gR h l0 0) (ix (1 : Int32))), .int l4]) (h' := h) rfl ?_
  refine mX_br (t := 13) (f := 52) (ls' := [some (.ref l0), some (.int l1), some (.int l2), some (.int l3), some (.int l4)]) (st' := []) (h' := h) rfl ?_ ?_
  · refine mX_to 1 (k' := 14) (ls' := [some (.ref l0), some (.int l1), some (.int l2), some (.int l3), some (.int l4)]) (st' := [.ref l0]) (h' := h) rfl ?_
    refine mX_ck (k' := 15) (ls' := [some (.ref l0), some (.int l1), some (.int l2), some (.int l3), some (.int l4)]) (st' := [.ref (gR h l0 29)]) (h' := h) rfl ?_
    refine mX_to 3 (k' := 18) (ls' := [some (.ref l0), some (.int l1), some (.int l2), some (.int l3), some (.int l4)]) (st' := [.int 10, .int l2, .int l4, .ref (gR h l0 29)]) (h' := h) rfl ?_
    refine mX_ckt (c := ¬ (10 : Int32) = 0) (k' := 19) (ls' := [some (.ref l0), some (.int l1), some (.int l2), some (.int l3), some (.int l4)]) (st' := [.int (l2 - l2 / 10 * 10), .int l4, .ref (gR h l0 29)]) (h' := h) (by decide) rfl ?_
    refine mX_ck (k' := 20) (ls' := [some (.ref l0), some (.int l1), some (.int l2), some (.int l3), some (.int l4)]) (st' := []) (h' := (sI h (gR h l0 29) (ix l4) (l2 - l2 / 10 * 10))) rfl ?_
    refine lt_gen (X := fun h3 : MH => mX (mE mtab d) KX11_areStands 20 [some (.ref l0), some (.int l1), some (.int l2), some (.int l3), some (.int l4)] [] h3) fun h3 => ?_
    refine mX_to 2 (k' := 22) (ls' := [some (.ref l0), some (.int l1), some (.int l2), some (.int l3), some (.int l4)]) (st' := [.int 10, .int l2]) (h' := h3) rfl ?_
    refine mX_ckt (c := ¬ (10 : Int32) = 0) (k' := 23) (ls' := [some (.ref l0), some (.int l1), some (.int l2), some (.int l3), some (.int l4)]) (st' := [.int (l2 / 10)]) (h' := h3) (by decide) rfl ?_
    refine lt_gen (X := fun v4 : Int32 => mX (mE mtab d) KX11_areStands 23 [some (.ref l0), some (.int l1), some (.int l2), some (.int l3), some (.int l4)] [.int v4] h3) fun v4 => ?_
    refine mX_to 3 (k' := 26) (ls' := [some (.ref l0), some (.int l1), some (.int v4), some (.int l3), some (.int l4)]) (st' := [.ref l0, .int l3]) (h' := h3) rfl ?_
    refine mX_ck (k' := 27) (ls' := [some (.ref l0), some (.int l1), some (.int v4), some (.int l3), some (.int l4)]) (st' := [.ref (gR h3 l0 29), .int l3]) (h' := h3) rfl ?_
    refine mX_to 1 (k' := 28) (ls' := [some (.ref l0), some (.int l1), some (.int v4), some (.int l3), some (.int l4)]) (st' := [.int l4, .ref (gR h3 l0 29), .int l3]) (h' := h3) rfl ?_
    refine mX_ck (k' := 29) (ls' := [some (.ref l0), some (.int l1), some (.int v4), some (.int l3), some (.int l4)]) (st' := [.int (gI h3 (gR h3 l0 29) (ix l4)), .int l3]) (h' := h3) rfl ?_
    refine mX_to 1 (k' := 30) (ls' := [some (.ref l0), some (.int l1), some (.int v4), some (.int l3), some (.int l4)]) (st' := [.int 9, .int (gI h3 (gR h3 l0 29) (ix l4)), .int l3]) (h' := h3) rfl ?_
    refine mX_br (t := 31) (f := 47) (ls' := [some (.ref l0), some (.int l1), some (.int v4), some (.int l3), some (.int l4)]) (st' := [.int l3]) (h' := h3) rfl ?_ ?_
    · refine mX_to 1 (k' := 32) (ls' := [some (.ref l0), some (.int l1), some (.int v4), some (.int l3), some (.int l4)]) (st' := [.ref l0, .int l3]) (h' := h3) rfl ?_
      refine mX_ck (k' := 33) (ls' := [some (.ref l0), some (.int l1), some (.int v4), some (.int l3), some (.int l4)]) (st' := [.ref (gR h3 l0 0), .int l3]) (h' := h3) rfl ?_
      refine mX_to 5 (k' := 38) (ls' := [some (.ref l0), some (.int l1), some (.int v4), some (.int l3), some (.int l4)]) (st' := [.int (34 + (2 * l4)), .ref (gR h3 l0 0), .int l3]) (h' := h3) rfl ?_
      refine mX_ck (k' := 39) (ls' := [some (.ref l0), some (.int l1), some (.int v4), some (.int l3), some (.int l4)]) (st' := [.int (gI h3 (gR h3 l0 0) (ix (34 + (2 * l4)))), .int l3]) (h' := h3) rfl ?_
      refine mX_to 1 (k' := 40) (ls' := [some (.ref l0), some (.int l1), some (.int v4), some (.int l3), some (.int l4)]) (st' := [.ref l0, .int (gI h3 (gR h3 l0 0) (ix (34 + (2 * l4)))), .int l3]) (h' := h3) rfl ?_
      refine mX_ck (k' := 41) (ls' := [some (.ref l0), some (.int l1), some (.int v4), some (.int l3), some (.int l4)]) (st' := [.ref (gR h3 l0 29), .int (gI h3 (gR h3 l0 0) (ix (34 + (2 * l4)))), .int l3]) (h' := h3) rfl ?_
      refine mX_to 1 (k' := 42) (ls' := [some (.ref l0), some (.int l1), some (.int v4), some (.int l3), some (.int l4)]) (st' := [.int l4, .ref (gR h3 l0 29), .int (gI h3 (gR h3 l0 0) (ix (34 + (2 * l4)))), .int l3]) (h' := h3) rfl ?_
      refine mX_ck (k' := 43) (ls' := [some (.ref l0), some (.int l1), some (.int v4), some (.int l3), some (.int l4)]) (st' := [.int (gI h3 (gR h3 l0 29) (ix l4)), .int (gI h3 (gR h3 l0 0) (ix (34 + (2 * l4)))), .int l3]) (h' := h3) rfl ?_
      refine mX_to 4 (k' := 48) (ls' := [some (.ref l0), some (.int l1), some (.int v4), some (.int l3), some (.int l4)]) (st' := [.int ((gI h3 (gR h3 l0 0) (ix (34 + (2 * l4)))) * ((gI h3 (gR h3 l0 29) (ix l4)) - 4)), .int l3]) (h' := h3) rfl ?_
      rfl
    · refine mX_to 1 (k' := 48) (ls' := [some (.ref l0), some (.int l1), some (.int v4), some (.int l3), some (.int l4)]) (st' := [.int 0, .int l3]) (h' := h3) rfl ?_
      rfl
  · refine mX_to 1 (k' := 53) (ls' := [some (.ref l0), some (.int l1), some (.int l2), some (.int l3), some (.int l4)]) (st' := [.int l3]) (h' := h) rfl ?_
    refine mX_br (t := 54) (f := 56) (ls' := [some (.ref l0), some (.int l1), some (.int l2), some (.int l3), some (.int l4)]) (st' := []) (h' := h) rfl ?_ ?_
    · refine mX_to 2 (k' := 57) (ls' := [some (.ref l0), some (.int l1), some (.int l2), some (.int l3), some (.int l4)]) (st' := [.int 1]) (h' := h) rfl ?_
      exact mX_retb (by decide) rfl
    · refine mX_to 1 (k' := 57) (ls' := [some (.ref l0), some (.int l1), some (.int l2), some (.int l3), some (.int l4)]) (st' := [.int 0]) (h' := h) rfl ?_
      exact mX_retb (by decide) rfl
theorem D_X11_areStands_48 (d : Nat) (h : MH) (l0 : Nat) (l1 : Int32) (l2 : Int32) (l3 : Int32) (l4 : Int32) (s0 : Int32) (s1 : Int32) : mX (mE mtab d) KX11_areStands 48 [some (.ref l0), some (.int l1), some (.int l2), some (.int l3), some (.int l4)] [.int s0, .int s1] h = lt_ (s1 + s0) fun v5 => mX (mE mtab d) KX11_areStands 7 [some (.ref l0), some (.int l1), some (.int l2), some (.int v5), some (.int (l4 + 1))] [] h := by
  refine mX_to 1 (k' := 49) (ls' := [some (.ref l0), some (.int l1), some (.int l2), some (.int l3), some (.int l4)]) (st' := [.int (s1 + s0)]) (h' := h) rfl ?_
  refine lt_gen (X := fun v5 : Int32 => mX (mE mtab d) KX11_areStands 49 [some (.ref l0), some (.int l1), some (.int l2), some (.int l3), some (.int l4)] [.int v5] h) fun v5 => ?_
  refine mX_to 3 (k' := 7) (ls' := [some (.ref l0), some (.int l1), some (.int l2), some (.int v5), some (.int (l4 + 1))]) (st' := []) (h' := h) rfl ?_
  rfl
theorem D_X11_areStands (d : Nat) (h : MH) (a0 : Nat) (a1 : Int32) : mE mtab (d + 1) 265 [.ref a0, .int a1] h = ck (kd h a0 = 12) (cI (mE mtab d 156 [.ref a0] h) (fun x2 h1 => mX (mE mtab d) KX11_areStands 7 [some (.ref a0), some (.int a1), some (.int a1), some (.int x2), some (.int 0)] [] h1)) := by
  refine mE_eq (q := (yX11_areStands, cX11_areStands, 5, (some .boolean), KX11_areStands)) (C := KX11_areStands) (ls := [some (.ref a0), some (.int a1), none, none, none]) rfl rfl rfl rfl ?_
  refine mX_to 3 (k' := 3) (ls' := [some (.ref a0), some (.int a1), some (.int a1), none, none]) (st' := [.ref a0]) (h' := h) rfl ?_
  refine mX_ckc (m := mcl (mE mtab d 156 [.ref a0] h) 1 4 [some (.ref a0), some (.int a1), some (.int a1), none, none] []) rfl ?_
  refine mk_cI ?_
  intro x2 h1
  refine mX_to 3 (k' := 7) (ls' := [some (.ref a0), some (.int a1), some (.int a1), some (.int x2), some (.int 0)]) (st' := []) (h' := h1) rfl ?_
  rfl
theorem D_X11_standing_4 (d : Nat) (h : MH) (l0 : Nat) (l1 : Nat) (l2 : Int32) (l3 : Int32) : mX (mE mtab d) KX11_standing 4 [some (.ref l0), some (.ref l1), some (.int l2), some (.int l3)] [] h = ck (kd h l0 = 12) (ck ((kd h (gR h l0 0) = 20 ∨ kd h (gR h l0 0) = 24) ∧ ib (1 : Int32) (ln h (gR h l0 0))) ((if l3 < (gI h (gR h l0 0) (ix (1 : Int32))) then ck ((kd h l1 = 20 ∨ kd h l1 = 24) ∧ ib l3 (ln h l1)) ((if (gI h l1 (ix l3)) < 9 then mX (mE mtab d) KX11_standing 21 [some (.ref l0), some (.ref l1), some (.int l2), some (.int l3)] [.int (1 <<< (l3 &&& 31)), .int l2] h else mX (mE mtab d) KX11_standing 21 [some (.ref l0), some (.ref l1), some (.int l2), some (.int l3)] [.int 0, .int l2] h)) else some (.int l2, h)))) := by
  refine mX_to 2 (k' := 6) (ls' := [some (.ref l0), some (.ref l1), some (.int l2), some (.int l3)]) (st' := [.ref l0, .int l3]) (h' := h) rfl ?_
  refine mX_ck (k' := 7) (ls' := [some (.ref l0), some (.ref l1), some (.int l2), some (.int l3)]) (st' := [.ref (gR h l0 0), .int l3]) (h' := h) rfl ?_
  refine mX_to 1 (k' := 8) (ls' := [some (.ref l0), some (.ref l1), some (.int l2), some (.int l3)]) (st' := [.int 1, .ref (gR h l0 0), .int l3]) (h' := h) rfl ?_
  refine mX_ck (k' := 9) (ls' := [some (.ref l0), some (.ref l1), some (.int l2), some (.int l3)]) (st' := [.int (gI h (gR h l0 0) (ix (1 : Int32))), .int l3]) (h' := h) rfl ?_
  refine mX_br (t := 10) (f := 25) (ls' := [some (.ref l0), some (.ref l1), some (.int l2), some (.int l3)]) (st' := []) (h' := h) rfl ?_ ?_
  · refine mX_to 3 (k' := 13) (ls' := [some (.ref l0), some (.ref l1), some (.int l2), some (.int l3)]) (st' := [.int l3, .ref l1, .int l2]) (h' := h) rfl ?_
    refine mX_ck (k' := 14) (ls' := [some (.ref l0), some (.ref l1), some (.int l2), some (.int l3)]) (st' := [.int (gI h l1 (ix l3)), .int l2]) (h' := h) rfl ?_
    refine mX_to 1 (k' := 15) (ls' := [some (.ref l0), some (.ref l1), some (.int l2), some (.int l3)]) (st' := [.int 9, .int (gI h l1 (ix l3)), .int l2]) (h' := h) rfl ?_
    refine mX_br (t := 16) (f := 20) (ls' := [some (.ref l0), some (.ref l1), some (.int l2), some (.int l3)]) (st' := [.int l2]) (h' := h) rfl ?_ ?_
    · refine mX_to 4 (k' := 21) (ls' := [some (.ref l0), some (.ref l1), some (.int l2), some (.int l3)]) (st' := [.int (1 <<< (l3 &&& 31)), .int l2]) (h' := h) rfl ?_
      rfl
    · refine mX_to 1 (k' := 21) (ls' := [some (.ref l0), some (.ref l1), some (.int l2), some (.int l3)]) (st' := [.int 0, .int l2]) (h' := h) rfl ?_
      rfl
  · refine mX_to 1 (k' := 26) (ls' := [some (.ref l0), some (.ref l1), some (.int l2), some (.int l3)]) (st' := [.int l2]) (h' := h) rfl ?_
    exact mX_reti rfl
theorem D_X11_standing_21 (d : Nat) (h : MH) (l0 : Nat) (l1 : Nat) (l2 : Int32) (l3 : Int32) (s0 : Int32) (s1 : Int32) : mX (mE mtab d) KX11_standing 21 [some (.ref l0), some (.ref l1), some (.int l2), some (.int l3)] [.int s0, .int s1] h = lt_ (s1 ||| s0) fun v1 => mX (mE mtab d) KX11_standing 4 [some (.ref l0), some (.ref l1), some (.int v1), some (.int (l3 + 1))] [] h := by
  refine mX_to 1 (k' := 22) (ls' := [some (.ref l0), some (.ref l1), some (.int l2), some (.int l3)]) (st' := [.int (s1 ||| s0)]) (h' := h) rfl ?_
  refine lt_gen (X := fun v1 : Int32 => mX (mE mtab d) KX11_standing 22 [some (.ref l0), some (.ref l1), some (.int l2), some (.int l3)] [.int v1] h) fun v1 => ?_
  refine mX_to 3 (k' := 4) (ls' := [some (.ref l0), some (.ref l1), some (.int v1), some (.int (l3 + 1))]) (st' := []) (h' := h) rfl ?_
  rfl
theorem D_X11_standing (d : Nat) (h : MH) (a0 : Nat) (a1 : Nat) : mE mtab (d + 1) 266 [.ref a0, .ref a1] h = mX (mE mtab d) KX11_standing 4 [some (.ref a0), some (.ref a1), some (.int 0), some (.int 0)] [] h := by
  refine mE_eq (q := (yX11_standing, cX11_standing, 4, (some .int), KX11_standing)) (C := KX11_standing) (ls := [some (.ref a0), some (.ref a1), none, none]) rfl rfl rfl rfl ?_
  refine mX_to 4 (k' := 4) (ls' := [some (.ref a0), some (.ref a1), some (.int 0), some (.int 0)]) (st' := []) (h' := h) rfl ?_
  rfl
theorem D_X11_wageOf_4 (d : Nat) (h : MH) (l0 : Nat) (l1 : Int32) (l2 : Int32) (l3 : Int32) : mX (mE mtab d) KX11_wageOf 4 [some (.ref l0), some (.int l1), some (.int l2), some (.int l3)] [] h = ck (kd h l0 = 12) (ck ((kd h (gR h l0 0) = 20 ∨ kd h (gR h l0 0) = 24) ∧ ib (1 : Int32) (ln h (gR h l0 0))) ((if l3 < (gI h (gR h l0 0) (ix (1 : Int32))) then cI (mE mtab d 108 [.int l1, .int l3] h) (fun x2 h1 => (if x2 = 0 then mX (mE mtab d) KX11_wageOf 27 [some (.ref l0), some (.int l1), some (.int l2), some (.int l3)] [.int 0, .int l2] h1 else ck (kd h1 l0 = 12) (ck ((kd h1 (gR h1 l0 0) = 20 ∨ kd h1 (gR h1 l0 0) = 24) ∧ ib ((34 + (2 * l3)) + 1) (ln h1 (gR h1 l0 0))) (mX (mE mtab d) KX11_wageOf 27 [some (.ref l0), some (.int l1), some (.int l2), some (.int l3)] [.int (gI h1 (gR h1 l0 0) (ix ((34 + (2 * l3)) + 1))), .int l2] h1)))) else some (.int l2, h)))) := by
  refine mX_to 2 (k' := 6) (ls' := [some (.ref l0), some (.int l1), some (.int l2), some (.int l3)]) (st' := [.ref l0, .int l3]) (h' := h) rfl ?_
  refine mX_ck (k' := 7) (ls' := [some (.ref l0), some (.int l1), some (.int l2), some (.int l3)]) (st' := [.ref (gR h l0 0), .int l3]) (h' := h) rfl ?_
  refine mX_to 1 (k' := 8) (ls' := [some (.ref l0), some (.int l1), some (.int l2), some (.int l3)]) (st' := [.int 1, .ref (gR h l0 0), .int l3]) (h' := h) rfl ?_
  refine mX_ck (k' := 9) (ls' := [some (.ref l0), some (.int l1), some (.int l2), some (.int l3)]) (st' := [.int (gI h (gR h l0 0) (ix (1 : Int32))), .int l3]) (h' := h) rfl ?_
  refine mX_br (t := 10) (f := 31) (ls' := [some (.ref l0), some (.int l1), some (.int l2), some (.int l3)]) (st' := []) (h' := h) rfl ?_ ?_
  · refine mX_to 3 (k' := 13) (ls' := [some (.ref l0), some (.int l1), some (.int l2), some (.int l3)]) (st' := [.int l3, .int l1, .int l2]) (h' := h) rfl ?_
    refine mX_cI (o := mE mtab d 108 [.int l1, .int l3] h) (k' := 14) (ls' := [some (.ref l0), some (.int l1), some (.int l2), some (.int l3)]) (st' := [.int l2]) rfl ?_
    intro x2 h1
    refine mX_br (t := 26) (f := 15) (ls' := [some (.ref l0), some (.int l1), some (.int l2), some (.int l3)]) (st' := [.int l2]) (h' := h1) rfl ?_ ?_
    · refine mX_to 1 (k' := 27) (ls' := [some (.ref l0), some (.int l1), some (.int l2), some (.int l3)]) (st' := [.int 0, .int l2]) (h' := h1) rfl ?_
      rfl
    · refine mX_to 1 (k' := 16) (ls' := [some (.ref l0), some (.int l1), some (.int l2), some (.int l3)]) (st' := [.ref l0, .int l2]) (h' := h1) rfl ?_
      refine mX_ck (k' := 17) (ls' := [some (.ref l0), some (.int l1), some (.int l2), some (.int l3)]) (st' := [.ref (gR h1 l0 0), .int l2]) (h' := h1) rfl ?_
      refine mX_to 7 (k' := 24) (ls' := [some (.ref l0), some (.int l1), some (.int l2), some (.int l3)]) (st' := [.int ((34 + (2 * l3)) + 1), .ref (gR h1 l0 0), .int l2]) (h' := h1) rfl ?_
      refine mX_ck (k' := 25) (ls' := [some (.ref l0), some (.int l1), some (.int l2), some (.int l3)]) (st' := [.int (gI h1 (gR h1 l0 0) (ix ((34 + (2 * l3)) + 1))), .int l2]) (h' := h1) rfl ?_
      refine mX_to 1 (k' := 27) (ls' := [some (.ref l0), some (.int l1), some (.int l2), some (.int l3)]) (st' := [.int (gI h1 (gR h1 l0 0) (ix ((34 + (2 * l3)) + 1))), .int l2]) (h' := h1) rfl ?_
      rfl
  · refine mX_to 1 (k' := 32) (ls' := [some (.ref l0), some (.int l1), some (.int l2), some (.int l3)]) (st' := [.int l2]) (h' := h) rfl ?_
    exact mX_reti rfl
theorem D_X11_wageOf_27 (d : Nat) (h : MH) (l0 : Nat) (l1 : Int32) (l2 : Int32) (l3 : Int32) (s0 : Int32) (s1 : Int32) : mX (mE mtab d) KX11_wageOf 27 [some (.ref l0), some (.int l1), some (.int l2), some (.int l3)] [.int s0, .int s1] h = lt_ (s1 + s0) fun v3 => mX (mE mtab d) KX11_wageOf 4 [some (.ref l0), some (.int l1), some (.int v3), some (.int (l3 + 1))] [] h := by
  refine mX_to 1 (k' := 28) (ls' := [some (.ref l0), some (.int l1), some (.int l2), some (.int l3)]) (st' := [.int (s1 + s0)]) (h' := h) rfl ?_
  refine lt_gen (X := fun v3 : Int32 => mX (mE mtab d) KX11_wageOf 28 [some (.ref l0), some (.int l1), some (.int l2), some (.int l3)] [.int v3] h) fun v3 => ?_
  refine mX_to 3 (k' := 4) (ls' := [some (.ref l0), some (.int l1), some (.int v3), some (.int (l3 + 1))]) (st' := []) (h' := h) rfl ?_
  rfl
theorem D_X11_wageOf (d : Nat) (h : MH) (a0 : Nat) (a1 : Int32) : mE mtab (d + 1) 267 [.ref a0, .int a1] h = mX (mE mtab d) KX11_wageOf 4 [some (.ref a0), some (.int a1), some (.int 0), some (.int 0)] [] h := by
  refine mE_eq (q := (yX11_wageOf, cX11_wageOf, 4, (some .int), KX11_wageOf)) (C := KX11_wageOf) (ls := [some (.ref a0), some (.int a1), none, none]) rfl rfl rfl rfl ?_
  refine mX_to 4 (k' := 4) (ls' := [some (.ref a0), some (.int a1), some (.int 0), some (.int 0)]) (st' := []) (h' := h) rfl ?_
  rfl
theorem D_X11_bits_4 (d : Nat) (h : MH) (l0 : Int32) (l1 : Int32) (l2 : Int32) : mX (mE mtab d) KX11_bits 4 [some (.int l0), some (.int l1), some (.int l2)] [] h = (if l2 = 0 then some (.int l1, h) else lt_ (l2 &&& (l2 - 1)) fun v2 => mX (mE mtab d) KX11_bits 4 [some (.int l0), some (.int (l1 + 1)), some (.int v2)] [] h) := by
  refine mX_to 1 (k' := 5) (ls' := [some (.int l0), some (.int l1), some (.int l2)]) (st' := [.int l2]) (h' := h) rfl ?_
  refine mX_br (t := 14) (f := 6) (ls' := [some (.int l0), some (.int l1), some (.int l2)]) (st' := []) (h' := h) rfl ?_ ?_
  · refine mX_to 1 (k' := 15) (ls' := [some (.int l0), some (.int l1), some (.int l2)]) (st' := [.int l1]) (h' := h) rfl ?_
    exact mX_reti rfl
  · refine mX_to 6 (k' := 12) (ls' := [some (.int l0), some (.int (l1 + 1)), some (.int l2)]) (st' := [.int (l2 &&& (l2 - 1))]) (h' := h) rfl ?_
    refine lt_gen (X := fun v2 : Int32 => mX (mE mtab d) KX11_bits 12 [some (.int l0), some (.int (l1 + 1)), some (.int l2)] [.int v2] h) fun v2 => ?_
    refine mX_to 2 (k' := 4) (ls' := [some (.int l0), some (.int (l1 + 1)), some (.int v2)]) (st' := []) (h' := h) rfl ?_
    rfl
theorem D_X11_bits (d : Nat) (h : MH) (a0 : Int32) : mE mtab (d + 1) 268 [.int a0] h = mX (mE mtab d) KX11_bits 4 [some (.int a0), some (.int 0), some (.int a0)] [] h := by
  refine mE_eq (q := (yX11_bits, cX11_bits, 3, (some .int), KX11_bits)) (C := KX11_bits) (ls := [some (.int a0), none, none]) rfl rfl rfl rfl ?_
  refine mX_to 4 (k' := 4) (ls' := [some (.int a0), some (.int 0), some (.int a0)]) (st' := []) (h' := h) rfl ?_
  rfl
theorem D_X11_isBetter_54 (d : Nat) (h : MH) (l0 : Nat) (l1 : Int32) (l2 : Int32) (l3 : Int32) : mX (mE mtab d) KX11_isBetter 54 [some (.ref l0), some (.int l1), some (.int l2), some (.int l3)] [] h = ck (kd h l0 = 12) (ck ((kd h (gR h l0 0) = 20 ∨ kd h (gR h l0 0) = 24) ∧ ib (1 : Int32) (ln h (gR h l0 0))) ((if l3 < (gI h (gR h l0 0) (ix (1 : Int32))) then ck (kd h l0 = 12) (ck ((kd h (gR h l0 29) = 20 ∨ kd h (gR h l0 29) = 24) ∧ ib l3 (ln h (gR h l0 29))) (ck (kd h l0 = 12) (ck ((kd h (gR h l0 30) = 20 ∨ kd h (gR h l0 30) = 24) ∧ ib l3 (ln h (gR h l0 30))) ((if (gI h (gR h l0 29) (ix l3)) = (gI h (gR h l0 30) (ix l3)) then mX (mE mtab d) KX11_isBetter 54 [some (.ref l0), some (.int l1), some (.int l2), some (.int (l3 + 1))] [] h else ck (kd h l0 = 12) (ck ((kd h (gR h l0 29) = 20 ∨ kd h (gR h l0 29) = 24) ∧ ib l3 (ln h (gR h l0 29))) (ck (kd h l0 = 12) (ck ((kd h (gR h l0 30) = 20 ∨ kd h (gR h l0 30) = 24) ∧ ib l3 (ln h (gR h l0 30))) ((if (gI h (gR h l0 29) (ix l3)) < (gI h (gR h l0 30) (ix l3)) then some (.int 1, h) else some (.int 0, h))))))))))) else some (.int 0, h)))) := by
  refine mX_to 2 (k' := 56) (ls' := [some (.ref l0), some (.int l1), some (.int l2), some (.int l3)]) (st' := [.ref l0, .int l3]) (h' := h) rfl ?_
  refine mX_ck (k' := 57) (ls' := [some (.ref l0), some (.int l1), some (.int l2), some (.int l3)]) (st' := [.ref (gR h l0 0), .int l3]) (h' := h) rfl ?_
  refine mX_to 1 (k' := 58) (ls' := [some (.ref l0), some (.int l1), some (.int l2), some (.int l3)]) (st' := [.int 1, .ref (gR h l0 0), .int l3]) (h' := h) rfl ?_
  refine mX_ck (k' := 59) (ls' := [some (.ref l0), some (.int l1), some (.int l2), some (.int l3)]) (st' := [.int (gI h (gR h l0 0) (ix (1 : Int32))), .int l3]) (h' := h) rfl ?_
  refine mX_br (t := 60) (f := 84) (ls' := [some (.ref l0), some (.int l1), some (.int l2), some (.int l3)]) (st' := []) (h' := h) rfl ?_ ?_
  · refine mX_to 1 (k' := 61) (ls' := [some (.ref l0), some (.int l1), some (.int l2), some (.int l3)]) (st' := [.ref l0]) (h' := h) rfl ?_
    refine mX_ck (k' := 62) (ls' := [some (.ref l0), some (.int l1), some (.int l2), some (.int l3)]) (st' := [.ref (gR h l0 29)]) (h' := h) rfl ?_
    refine mX_to 1 (k' := 63) (ls' := [some (.ref l0), some (.int l1), some (.int l2), some (.int l3)]) (st' := [.int l3, .ref (gR h l0 29)]) (h' := h) rfl ?_
    refine mX_ck (k' := 64) (ls' := [some (.ref l0), some (.int l1), some (.int l2), some (.int l3)]) (st' := [.int (gI h (gR h l0 29) (ix l3))]) (h' := h) rfl ?_
    refine mX_to 1 (k' := 65) (ls' := [some (.ref l0), some (.int l1), some (.int l2), some (.int l3)]) (st' := [.ref l0, .int (gI h (gR h l0 29) (ix l3))]) (h' := h) rfl ?_
    refine mX_ck (k' := 66) (ls' := [some (.ref l0), some (.int l1), some (.int l2), some (.int l3)]) (st' := [.ref (gR h l0 30), .int (gI h (gR h l0 29) (ix l3))]) (h' := h) rfl ?_
    refine mX_to 1 (k' := 67) (ls' := [some (.ref l0), some (.int l1), some (.int l2), some (.int l3)]) (st' := [.int l3, .ref (gR h l0 30), .int (gI h (gR h l0 29) (ix l3))]) (h' := h) rfl ?_
    refine mX_ck (k' := 68) (ls' := [some (.ref l0), some (.int l1), some (.int l2), some (.int l3)]) (st' := [.int (gI h (gR h l0 30) (ix l3)), .int (gI h (gR h l0 29) (ix l3))]) (h' := h) rfl ?_
    refine mX_br (t := 82) (f := 69) (ls' := [some (.ref l0), some (.int l1), some (.int l2), some (.int l3)]) (st' := []) (h' := h) rfl ?_ ?_
    · refine mX_to 2 (k' := 54) (ls' := [some (.ref l0), some (.int l1), some (.int l2), some (.int (l3 + 1))]) (st' := []) (h' := h) rfl ?_
      rfl
    · refine mX_to 1 (k' := 70) (ls' := [some (.ref l0), some (.int l1), some (.int l2), some (.int l3)]) (st' := [.ref l0]) (h' := h) rfl ?_
      refine mX_ck (k' := 71) (ls' := [some (.ref l0), some (.int l1), some (.int l2), some (.int l3)]) (st' := [.ref (gR h l0 29)]) (h' := h) rfl ?_
      refine mX_to 1 (k' := 72) (ls' := [some (.ref l0), some (.int l1), some (.int l2), some (.int l3)]) (st' := [.int l3, .ref (gR h l0 29)]) (h' := h) rfl ?_
      refine mX_ck (k' := 73) (ls' := [some (.ref l0), some (.int l1), some (.int l2), some (.int l3)]) (st' := [.int (gI h (gR h l0 29) (ix l3))]) (h' := h) rfl ?_
      refine mX_to 1 (k' := 74) (ls' := [some (.ref l0), some (.int l1), some (.int l2), some (.int l3)]) (st' := [.ref l0, .int (gI h (gR h l0 29) (ix l3))]) (h' := h) rfl ?_
      refine mX_ck (k' := 75) (ls' := [some (.ref l0), some (.int l1), some (.int l2), some (.int l3)]) (st' := [.ref (gR h l0 30), .int (gI h (gR h l0 29) (ix l3))]) (h' := h) rfl ?_
      refine mX_to 1 (k' := 76) (ls' := [some (.ref l0), some (.int l1), some (.int l2), some (.int l3)]) (st' := [.int l3, .ref (gR h l0 30), .int (gI h (gR h l0 29) (ix l3))]) (h' := h) rfl ?_
      refine mX_ck (k' := 77) (ls' := [some (.ref l0), some (.int l1), some (.int l2), some (.int l3)]) (st' := [.int (gI h (gR h l0 30) (ix l3)), .int (gI h (gR h l0 29) (ix l3))]) (h' := h) rfl ?_
      refine mX_br (t := 78) (f := 80) (ls' := [some (.ref l0), some (.int l1), some (.int l2), some (.int l3)]) (st' := []) (h' := h) rfl ?_ ?_
      · refine mX_to 2 (k' := 81) (ls' := [some (.ref l0), some (.int l1), some (.int l2), some (.int l3)]) (st' := [.int 1]) (h' := h) rfl ?_
        exact mX_retb (by decide) rfl
      · refine mX_to 1 (k' := 81) (ls' := [some (.ref l0), some (.int l1), some (.int l2), some (.int l3)]) (st' := [.int 0]) (h' := h) rfl ?_
        exact mX_retb (by decide) rfl
  · refine mX_to 1 (k' := 85) (ls' := [some (.ref l0), some (.int l1), some (.int l2), some (.int l3)]) (st' := [.int 0]) (h' := h) rfl ?_
    exact mX_retb (by decide) rfl
theorem D_X11_isBetter (d : Nat) (h : MH) (a0 : Nat) : mE mtab (d + 1) 269 [.ref a0] h = ck (kd h a0 = 12) (ck (kd h a0 = 12) (cI (mE mtab d 266 [.ref a0, .ref (gR h a0 29)] h) (fun x2 h1 => ck (kd h1 a0 = 12) (ck (kd h1 a0 = 12) (cI (mE mtab d 266 [.ref a0, .ref (gR h1 a0 30)] h1) (fun x4 h3 => ck (kd h3 a0 = 12) (cI (mE mtab d 267 [.ref a0, .int x2] h3) (fun x6 h5 => ck (kd h5 a0 = 12) (cI (mE mtab d 267 [.ref a0, .int x4] h5) (fun x8 h7 => (if x6 = x8 then cI (mE mtab d 268 [.int x2] h7) (fun x10 h9 => cI (mE mtab d 268 [.int x4] h9) (fun x12 h11 => (if x10 = x12 then (if x2 = x4 then mX (mE mtab d) KX11_isBetter 54 [some (.ref a0), some (.int x2), some (.int x4), some (.int 0)] [] h11 else (if x2 < x4 then some (.int 1, h11) else some (.int 0, h11))) else cI (mE mtab d 268 [.int x2] h11) (fun x14 h13 => cI (mE mtab d 268 [.int x4] h13) (fun x16 h15 => (if x14 < x16 then some (.int 1, h15) else some (.int 0, h15))))))) else ck (kd h7 a0 = 12) (cI (mE mtab d 267 [.ref a0, .int x2] h7) (fun x18 h17 => ck (kd h17 a0 = 12) (cI (mE mtab d 267 [.ref a0, .int x4] h17) (fun x20 h19 => (if x18 < x20 then some (.int 1, h19) else some (.int 0, h19))))))))))))))))) := by
  refine mE_eq (q := (yX11_isBetter, cX11_isBetter, 4, (some .boolean), KX11_isBetter)) (C := KX11_isBetter) (ls := [some (.ref a0), none, none, none]) rfl rfl rfl rfl ?_
  refine mX_to 2 (k' := 2) (ls' := [some (.ref a0), none, none, none]) (st' := [.ref a0, .ref a0]) (h' := h) rfl ?_
  refine mX_ck (k' := 3) (ls' := [some (.ref a0), none, none, none]) (st' := [.ref (gR h a0 29), .ref a0]) (h' := h) rfl ?_
  refine mX_ckc (m := mcl (mE mtab d 266 [.ref a0, .ref (gR h a0 29)] h) 1 4 [some (.ref a0), none, none, none] []) rfl ?_
  refine mk_cI ?_
  intro x2 h1
  refine mX_to 3 (k' := 7) (ls' := [some (.ref a0), some (.int x2), none, none]) (st' := [.ref a0, .ref a0]) (h' := h1) rfl ?_
  refine mX_ck (k' := 8) (ls' := [some (.ref a0), some (.int x2), none, none]) (st' := [.ref (gR h1 a0 30), .ref a0]) (h' := h1) rfl ?_
  refine mX_ckc (m := mcl (mE mtab d 266 [.ref a0, .ref (gR h1 a0 30)] h1) 1 9 [some (.ref a0), some (.int x2), none, none] []) rfl ?_
  refine mk_cI ?_
  intro x4 h3
  refine mX_to 3 (k' := 12) (ls' := [some (.ref a0), some (.int x2), some (.int x4), none]) (st' := [.int x2, .ref a0]) (h' := h3) rfl ?_
  refine mX_ckc (m := mcl (mE mtab d 267 [.ref a0, .int x2] h3) 1 13 [some (.ref a0), some (.int x2), some (.int x4), none] []) rfl ?_
  refine mk_cI ?_
  intro x6 h5
  refine mX_to 2 (k' := 15) (ls' := [some (.ref a0), some (.int x2), some (.int x4), none]) (st' := [.int x4, .ref a0, .int x6]) (h' := h5) rfl ?_
  refine mX_ckc (m := mcl (mE mtab d 267 [.ref a0, .int x4] h5) 1 16 [some (.ref a0), some (.int x2), some (.int x4), none] [.int x6]) rfl ?_
  refine mk_cI ?_
  intro x8 h7
  refine mX_br (t := 28) (f := 17) (ls' := [some (.ref a0), some (.int x2), some (.int x4), none]) (st' := []) (h' := h7) rfl ?_ ?_
  · refine mX_to 1 (k' := 29) (ls' := [some (.ref a0), some (.int x2), some (.int x4), none]) (st' := [.int x2]) (h' := h7) rfl ?_
    refine mX_cI (o := mE mtab d 268 [.int x2] h7) (k' := 30) (ls' := [some (.ref a0), some (.int x2), some (.int x4), none]) (st' := []) rfl ?_
    intro x10 h9
    refine mX_to 1 (k' := 31) (ls' := [some (.ref a0), some (.int x2), some (.int x4), none]) (st' := [.int x4, .int x10]) (h' := h9) rfl ?_
    refine mX_cI (o := mE mtab d 268 [.int x4] h9) (k' := 32) (ls' := [some (.ref a0), some (.int x2), some (.int x4), none]) (st' := [.int x10]) rfl ?_
    intro x12 h11
    refine mX_br (t := 42) (f := 33) (ls' := [some (.ref a0), some (.int x2), some (.int x4), none]) (st' := []) (h' := h11) rfl ?_ ?_
    · refine mX_to 2 (k' := 44) (ls' := [some (.ref a0), some (.int x2), some (.int x4), none]) (st' := [.int x4, .int x2]) (h' := h11) rfl ?_
      refine mX_br (t := 52) (f := 45) (ls' := [some (.ref a0), some (.int x2), some (.int x4), none]) (st' := []) (h' := h11) rfl ?_ ?_
      · refine mX_to 2 (k' := 54) (ls' := [some (.ref a0), some (.int x2), some (.int x4), some (.int 0)]) (st' := []) (h' := h11) rfl ?_
        rfl
      · refine mX_to 2 (k' := 47) (ls' := [some (.ref a0), some (.int x2), some (.int x4), none]) (st' := [.int x4, .int x2]) (h' := h11) rfl ?_
        refine mX_br (t := 48) (f := 50) (ls' := [some (.ref a0), some (.int x2), some (.int x4), none]) (st' := []) (h' := h11) rfl ?_ ?_
        · refine mX_to 2 (k' := 51) (ls' := [some (.ref a0), some (.int x2), some (.int x4), none]) (st' := [.int 1]) (h' := h11) rfl ?_
          exact mX_retb (by decide) rfl
        · refine mX_to 1 (k' := 51) (ls' := [some (.ref a0), some (.int x2), some (.int x4), none]) (st' := [.int 0]) (h' := h11) rfl ?_
          exact mX_retb (by decide) rfl
    · refine mX_to 1 (k' := 34) (ls' := [some (.ref a0), some (.int x2), some (.int x4), none]) (st' := [.int x2]) (h' := h11) rfl ?_
      refine mX_cI (o := mE mtab d 268 [.int x2] h11) (k' := 35) (ls' := [some (.ref a0), some (.int x2), some (.int x4), none]) (st' := []) rfl ?_
      intro x14 h13
      refine mX_to 1 (k' := 36) (ls' := [some (.ref a0), some (.int x2), some (.int x4), none]) (st' := [.int x4, .int x14]) (h' := h13) rfl ?_
      refine mX_cI (o := mE mtab d 268 [.int x4] h13) (k' := 37) (ls' := [some (.ref a0), some (.int x2), some (.int x4), none]) (st' := [.int x14]) rfl ?_
      intro x16 h15
      refine mX_br (t := 38) (f := 40) (ls' := [some (.ref a0), some (.int x2), some (.int x4), none]) (st' := []) (h' := h15) rfl ?_ ?_
      · refine mX_to 2 (k' := 41) (ls' := [some (.ref a0), some (.int x2), some (.int x4), none]) (st' := [.int 1]) (h' := h15) rfl ?_
        exact mX_retb (by decide) rfl
      · refine mX_to 1 (k' := 41) (ls' := [some (.ref a0), some (.int x2), some (.int x4), none]) (st' := [.int 0]) (h' := h15) rfl ?_
        exact mX_retb (by decide) rfl
  · refine mX_to 2 (k' := 19) (ls' := [some (.ref a0), some (.int x2), some (.int x4), none]) (st' := [.int x2, .ref a0]) (h' := h7) rfl ?_
    refine mX_ckc (m := mcl (mE mtab d 267 [.ref a0, .int x2] h7) 1 20 [some (.ref a0), some (.int x2), some (.int x4), none] []) rfl ?_
    refine mk_cI ?_
    intro x18 h17
    refine mX_to 2 (k' := 22) (ls' := [some (.ref a0), some (.int x2), some (.int x4), none]) (st' := [.int x4, .ref a0, .int x18]) (h' := h17) rfl ?_
    refine mX_ckc (m := mcl (mE mtab d 267 [.ref a0, .int x4] h17) 1 23 [some (.ref a0), some (.int x2), some (.int x4), none] [.int x18]) rfl ?_
    refine mk_cI ?_
    intro x20 h19
    refine mX_br (t := 24) (f := 26) (ls' := [some (.ref a0), some (.int x2), some (.int x4), none]) (st' := []) (h' := h19) rfl ?_ ?_
    · refine mX_to 2 (k' := 27) (ls' := [some (.ref a0), some (.int x2), some (.int x4), none]) (st' := [.int 1]) (h' := h19) rfl ?_
      exact mX_retb (by decide) rfl
    · refine mX_to 1 (k' := 27) (ls' := [some (.ref a0), some (.int x2), some (.int x4), none]) (st' := [.int 0]) (h' := h19) rfl ?_
      exact mX_retb (by decide) rfl
theorem D_X11_isPaid_6 (d : Nat) (h : MH) (l0 : Nat) (l1 : Int32) (l2 : Int32) (l3 : Int32) : mX (mE mtab d) KX11_isPaid 6 [some (.ref l0), some (.int l1), some (.int l2), some (.int l3), none] [] h = ck (kd h l0 = 12) (ck ((kd h (gR h l0 0) = 20 ∨ kd h (gR h l0 0) = 24) ∧ ib (1 : Int32) (ln h (gR h l0 0))) ((if l3 < (gI h (gR h l0 0) (ix (1 : Int32))) then lt_ (l2 * 10) fun v1 => mX (mE mtab d) KX11_isPaid 6 [some (.ref l0), some (.int l1), some (.int v1), some (.int (l3 + 1)), none] [] h else mX (mE mtab d) KX11_isPaid 20 [some (.ref l0), some (.int l1), some (.int l2), some (.int 0), none] [] h))) := by
  refine mX_to 2 (k' := 8) (ls' := [some (.ref l0), some (.int l1), some (.int l2), some (.int l3), none]) (st' := [.ref l0, .int l3]) (h' := h) rfl ?_
  refine mX_ck (k' := 9) (ls' := [some (.ref l0), some (.int l1), some (.int l2), some (.int l3), none]) (st' := [.ref (gR h l0 0), .int l3]) (h' := h) rfl ?_
  refine mX_to 1 (k' := 10) (ls' := [some (.ref l0), some (.int l1), some (.int l2), some (.int l3), none]) (st' := [.int 1, .ref (gR h l0 0), .int l3]) (h' := h) rfl ?_
  refine mX_ck (k' := 11) (ls' := [some (.ref l0), some (.int l1), some (.int l2), some (.int l3), none]) (st' := [.int (gI h (gR h l0 0) (ix (1 : Int32))), .int l3]) (h' := h) rfl ?_
  refine mX_br (t := 12) (f := 18) (ls' := [some (.ref l0), some (.int l1), some (.int l2), some (.int l3), none]) (st' := []) (h' := h) rfl ?_ ?_
  · refine mX_to 3 (k' := 15) (ls' := [some (.ref l0), some (.int l1), some (.int l2), some (.int l3), none]) (st' := [.int (l2 * 10)]) (h' := h) rfl ?_
    refine lt_gen (X := fun v1 : Int32 => mX (mE mtab d) KX11_isPaid 15 [some (.ref l0), some (.int l1), some (.int l2), some (.int l3), none] [.int v1] h) fun v1 => ?_
    refine mX_to 3 (k' := 6) (ls' := [some (.ref l0), some (.int l1), some (.int v1), some (.int (l3 + 1)), none]) (st' := []) (h' := h) rfl ?_
    rfl
  · refine mX_to 2 (k' := 20) (ls' := [some (.ref l0), some (.int l1), some (.int l2), some (.int 0), none]) (st' := []) (h' := h) rfl ?_
    rfl
theorem D_X11_isPaid_20 (d : Nat) (h : MH) (l0 : Nat) (l1 : Int32) (l2 : Int32) (l3 : Int32) (o4 : Option Value) : mX (mE mtab d) KX11_isPaid 20 [some (.ref l0), some (.int l1), some (.int l2), some (.int l3), o4] [] h = (if l3 < l2 then ck (kd h l0 = 12) (cI (mE mtab d 265 [.ref l0, .int l3] h) (fun x4 h3 => (if x4 = 0 then mX (mE mtab d) KX11_isPaid 53 [some (.ref l0), some (.int l1), some (.int l2), some (.int l3), o4] [] h3 else (if l1 = 0 then mX (mE mtab d) KX11_isPaid 33 [some (.ref l0), some (.int l1), some (.int l2), some (.int l3), o4] [] h3 else ck (kd h3 l0 = 12) (cI (mE mtab d 269 [.ref l0] h3) (fun x6 h5 => (if x6 = 0 then mX (mE mtab d) KX11_isPaid 53 [some (.ref l0), some (.int l1), some (.int l2), some (.int l3), o4] [] h5 else mX (mE mtab d) KX11_isPaid 33 [some (.ref l0), some (.int l1), some (.int l2), some (.int l3), o4] [] h5))))))) else ck (mrt 1 l1) (some (.int l1, h))) := by
  refine mX_to 2 (k' := 22) (ls' := [some (.ref l0), some (.int l1), some (.int l2), some (.int l3), o4]) (st' := [.int l2, .int l3]) (h' := h) rfl ?_
  refine mX_br (t := 23) (f := 55) (ls' := [some (.ref l0), some (.int l1), some (.int l2), some (.int l3), o4]) (st' := []) (h' := h) rfl ?_ ?_
  · refine mX_to 2 (k' := 25) (ls' := [some (.ref l0), some (.int l1), some (.int l2), some (.int l3), o4]) (st' := [.int l3, .ref l0]) (h' := h) rfl ?_
    refine mX_ckc (m := mcl (mE mtab d 265 [.ref l0, .int l3] h) 1 26 [some (.ref l0), some (.int l1), some (.int l2), some (.int l3), o4] []) rfl ?_
    refine mk_cI ?_
    intro x4 h3
    refine mX_br (t := 53) (f := 27) (ls' := [some (.ref l0), some (.int l1), some (.int l2), some (.int l3), o4]) (st' := []) (h' := h3) rfl ?_ ?_
    · rfl
    · refine mX_to 1 (k' := 28) (ls' := [some (.ref l0), some (.int l1), some (.int l2), some (.int l3), o4]) (st' := [.int l1]) (h' := h3) rfl ?_
      refine mX_br (t := 33) (f := 29) (ls' := [some (.ref l0), some (.int l1), some (.int l2), some (.int l3), o4]) (st' := []) (h' := h3) rfl ?_ ?_
      · rfl
      · refine mX_to 1 (k' := 30) (ls' := [some (.ref l0), some (.int l1), some (.int l2), some (.int l3), o4]) (st' := [.ref l0]) (h' := h3) rfl ?_
        refine mX_ckc (m := mcl (mE mtab d 269 [.ref l0] h3) 1 31 [some (.ref l0), some (.int l1), some (.int l2), some (.int l3), o4] []) rfl ?_
        refine mk_cI ?_
        intro x6 h5
        refine mX_br (t := 32) (f := 33) (ls' := [some (.ref l0), some (.int l1), some (.int l2), some (.int l3), o4]) (st' := []) (h' := h5) rfl ?_ ?_
        · refine mX_to 1 (k' := 53) (ls' := [some (.ref l0), some (.int l1), some (.int l2), some (.int l3), o4]) (st' := []) (h' := h5) rfl ?_
          rfl
        · rfl
  · refine mX_to 1 (k' := 56) (ls' := [some (.ref l0), some (.int l1), some (.int l2), some (.int l3), o4]) (st' := [.int l1]) (h' := h) rfl ?_
    exact mX_retc rfl
theorem D_X11_isPaid_53 (d : Nat) (h : MH) (l0 : Nat) (l1 : Int32) (l2 : Int32) (l3 : Int32) (o4 : Option Value) : mX (mE mtab d) KX11_isPaid 53 [some (.ref l0), some (.int l1), some (.int l2), some (.int l3), o4] [] h = mX (mE mtab d) KX11_isPaid 20 [some (.ref l0), some (.int l1), some (.int l2), some (.int (l3 + 1)), o4] [] h := by
  refine mX_to 2 (k' := 20) (ls' := [some (.ref l0), some (.int l1), some (.int l2), some (.int (l3 + 1)), o4]) (st' := []) (h' := h) rfl ?_
  rfl
theorem D_X11_isPaid_33 (d : Nat) (h : MH) (l0 : Nat) (l1 : Int32) (l2 : Int32) (l3 : Int32) (o4 : Option Value) : mX (mE mtab d) KX11_isPaid 33 [some (.ref l0), some (.int l1), some (.int l2), some (.int l3), o4] [] h = mX (mE mtab d) KX11_isPaid 37 [some (.ref l0), some (.int 1), some (.int l2), some (.int l3), some (.int 0)] [] h := by
  refine mX_to 4 (k' := 37) (ls' := [some (.ref l0), some (.int 1), some (.int l2), some (.int l3), some (.int 0)]) (st' := []) (h' := h) rfl ?_
  rfl
theorem D_X11_isPaid_37 (d : Nat) (h : MH) (l0 : Nat) (l1 : Int32) (l2 : Int32) (l3 : Int32) (l4 : Int32) : mX (mE mtab d) KX11_isPaid 37 [some (.ref l0), some (.int l1), some (.int l2), some (.int l3), some (.int l4)] [] h = ck (kd h l0 = 12) (ck ((kd h (gR h l0 0) = 20 ∨ kd h (gR h l0 0) = 24) ∧ ib (1 : Int32) (ln h (gR h l0 0))) ((if l4 < (gI h (gR h l0 0) (ix (1 : Int32))) then ck (kd h l0 = 12) (ck (kd h l0 = 12) (ck ((kd h (gR h l0 29) = 20 ∨ kd h (gR h l0 29) = 24) ∧ ib l4 (ln h (gR h l0 29))) (ck (kd h (gR h l0 30) = 20 ∧ ib l4 (ln h (gR h l0 30))) (lt_ (sI h (gR h l0 30) (ix l4) (gI h (gR h l0 29) (ix l4))) fun h8 => mX (mE mtab d) KX11_isPaid 37 [some (.ref l0), some (.int l1), some (.int l2), some (.int l3), some (.int (l4 + 1))] [] h8)))) else mX (mE mtab d) KX11_isPaid 53 [some (.ref l0), some (.int l1), some (.int l2), some (.int l3), some (.int l4)] [] h))) := by
  refine mX_to 2 (k' := 39) (ls' := [some (.ref l0), some (.int l1), some (.int l2), some (.int l3), some (.int l4)]) (st' := [.ref l0, .int l4]) (h' := h) rfl ?_
  refine mX_ck (k' := 40) (ls' := [some (.ref l0), some (.int l1), some (.int l2), some (.int l3), some (.int l4)]) (st' := [.ref (gR h l0 0), .int l4]) (h' := h) rfl ?_
  refine mX_to 1 (k' := 41) (ls' := [some (.ref l0), some (.int l1), some (.int l2), some (.int l3), some (.int l4)]) (st' := [.int 1, .ref (gR h l0 0), .int l4]) (h' := h) rfl ?_
  refine mX_ck (k' := 42) (ls' := [some (.ref l0), some (.int l1), some (.int l2), some (.int l3), some (.int l4)]) (st' := [.int (gI h (gR h l0 0) (ix (1 : Int32))), .int l4]) (h' := h) rfl ?_
  refine mX_br (t := 43) (f := 53) (ls' := [some (.ref l0), some (.int l1), some (.int l2), some (.int l3), some (.int l4)]) (st' := []) (h' := h) rfl ?_ ?_
  · refine mX_to 1 (k' := 44) (ls' := [some (.ref l0), some (.int l1), some (.int l2), some (.int l3), some (.int l4)]) (st' := [.ref l0]) (h' := h) rfl ?_
    refine mX_ck (k' := 45) (ls' := [some (.ref l0), some (.int l1), some (.int l2), some (.int l3), some (.int l4)]) (st' := [.ref (gR h l0 30)]) (h' := h) rfl ?_
    refine mX_to 2 (k' := 47) (ls' := [some (.ref l0), some (.int l1), some (.int l2), some (.int l3), some (.int l4)]) (st' := [.ref l0, .int l4, .ref (gR h l0 30)]) (h' := h) rfl ?_
    refine mX_ck (k' := 48) (ls' := [some (.ref l0), some (.int l1), some (.int l2), some (.int l3), some (.int l4)]) (st' := [.ref (gR h l0 29), .int l4, .ref (gR h l0 30)]) (h' := h) rfl ?_
    refine mX_to 1 (k' := 49) (ls' := [some (.ref l0), some (.int l1), some (.int l2), some (.int l3), some (.int l4)]) (st' := [.int l4, .ref (gR h l0 29), .int l4, .ref (gR h l0 30)]) (h' := h) rfl ?_
    refine mX_ck (k' := 50) (ls' := [some (.ref l0), some (.int l1), some (.int l2), some (.int l3), some (.int l4)]) (st' := [.int (gI h (gR h l0 29) (ix l4)), .int l4, .ref (gR h l0 30)]) (h' := h) rfl ?_
    refine mX_ck (k' := 51) (ls' := [some (.ref l0), some (.int l1), some (.int l2), some (.int l3), some (.int l4)]) (st' := []) (h' := (sI h (gR h l0 30) (ix l4) (gI h (gR h l0 29) (ix l4)))) rfl ?_
    refine lt_gen (X := fun h8 : MH => mX (mE mtab d) KX11_isPaid 51 [some (.ref l0), some (.int l1), some (.int l2), some (.int l3), some (.int l4)] [] h8) fun h8 => ?_
    refine mX_to 2 (k' := 37) (ls' := [some (.ref l0), some (.int l1), some (.int l2), some (.int l3), some (.int (l4 + 1))]) (st' := []) (h' := h8) rfl ?_
    rfl
  · rfl
theorem D_X11_isPaid (d : Nat) (h : MH) (a0 : Nat) : mE mtab (d + 1) 270 [.ref a0] h = mX (mE mtab d) KX11_isPaid 6 [some (.ref a0), some (.int 0), some (.int 1), some (.int 0), none] [] h := by
  refine mE_eq (q := (yX11_isPaid, cX11_isPaid, 5, (some .boolean), KX11_isPaid)) (C := KX11_isPaid) (ls := [some (.ref a0), none, none, none, none]) rfl rfl rfl rfl ?_
  refine mX_to 6 (k' := 6) (ls' := [some (.ref a0), some (.int 0), some (.int 1), some (.int 0), none]) (st' := []) (h' := h) rfl ?_
  rfl
