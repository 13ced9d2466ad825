--deps:19.lay 21.facts 22.00.names
/-! EQUATIONS over the fixed cells (written by wip/gen/sgen.py) -/
theorem S_X9_tellNames_6 {h : MH} (L : lay h) (d : Nat) (q : Nat) (T : tAt q) (l1 : Int32) (l2 : Int32) (l3 : Int32) (l4 : Int32) : G_X9_tellNames_6 d q l1 l2 l3 l4 h = (if l4 < (gI h q 0) then ck (ib l4 4) (ck (ib l4 4) (lt_ (l2 + ((gI h (q + 1) (ix l4)) * ((gI h (q + 2) (ix l4)) - 4))) fun v1 => ck (ib l4 4) (lt_ (l3 + (gI h (q + 1) (ix l4))) fun v2 => G_X9_tellNames_6 d q l1 v1 v2 (l4 + 1) h))) else G_X9_tellNames_37 d q l1 l2 l3 0 0 h) := by
  refine mX_to 2 (k' := 8) (ls' := [some (.ref q), some (.int l1), some (.int l2), some (.int l3), some (.int l4), none]) (st' := [.ref q, .int l4]) (h' := h) rfl ?_
  refine mX_ckv (v := .int (gI h q 0)) (v' := .int (gI h q 0)) (k' := 9) (ls' := [some (.ref q), some (.int l1), some (.int l2), some (.int l3), some (.int l4), none]) (st' := [.int l4]) (h' := h) (kT0 L T) rfl rfl ?_
  refine mX_br (t := 10) (f := 33) (ls' := [some (.ref q), some (.int l1), some (.int l2), some (.int l3), some (.int l4), none]) (st' := []) (h' := h) rfl ?_ ?_
  · refine mX_to 2 (k' := 12) (ls' := [some (.ref q), some (.int l1), some (.int l2), some (.int l3), some (.int l4), none]) (st' := [.ref q, .int l2]) (h' := h) rfl ?_
    refine mX_ckv (v := .ref (gR h q 1)) (v' := .ref (q + 1)) (k' := 13) (ls' := [some (.ref q), some (.int l1), some (.int l2), some (.int l3), some (.int l4), none]) (st' := [.int l2]) (h' := h) (kT0 L T) (congrArg Value.ref (rT1 L T)) rfl ?_
    refine mX_to 1 (k' := 14) (ls' := [some (.ref q), some (.int l1), some (.int l2), some (.int l3), some (.int l4), none]) (st' := [.int l4, .ref (q + 1), .int l2]) (h' := h) rfl ?_
    refine mX_ckw (v := .int (gI h (q + 1) (ix l4))) (v' := .int (gI h (q + 1) (ix l4))) (k' := 15) (ls' := [some (.ref q), some (.int l1), some (.int l2), some (.int l3), some (.int l4), none]) (st' := [.int l2]) (h' := h) (ckA1 (kT1 L T) (nT1 L T)) rfl rfl fun c5 => ?_
    refine mX_to 1 (k' := 16) (ls' := [some (.ref q), some (.int l1), some (.int l2), some (.int l3), some (.int l4), none]) (st' := [.ref q, .int (gI h (q + 1) (ix l4)), .int l2]) (h' := h) rfl ?_
    refine mX_ckv (v := .ref (gR h q 2)) (v' := .ref (q + 2)) (k' := 17) (ls' := [some (.ref q), some (.int l1), some (.int l2), some (.int l3), some (.int l4), none]) (st' := [.int (gI h (q + 1) (ix l4)), .int l2]) (h' := h) (kT0 L T) (congrArg Value.ref (rT2 L T)) rfl ?_
    refine mX_to 1 (k' := 18) (ls' := [some (.ref q), some (.int l1), some (.int l2), some (.int l3), some (.int l4), none]) (st' := [.int l4, .ref (q + 2), .int (gI h (q + 1) (ix l4)), .int l2]) (h' := h) rfl ?_
    refine mX_ckw (v := .int (gI h (q + 2) (ix l4))) (v' := .int (gI h (q + 2) (ix l4))) (k' := 19) (ls' := [some (.ref q), some (.int l1), some (.int l2), some (.int l3), some (.int l4), none]) (st' := [.int (gI h (q + 1) (ix l4)), .int l2]) (h' := h) (ckA1 (kT2 L T) (nT2 L T)) rfl rfl fun c4 => ?_
    refine mX_to 4 (k' := 23) (ls' := [some (.ref q), some (.int l1), some (.int l2), some (.int l3), some (.int l4), none]) (st' := [.int (l2 + ((gI h (q + 1) (ix l4)) * ((gI h (q + 2) (ix l4)) - 4)))]) (h' := h) rfl ?_
    refine lt_gen (X := fun v1 : Int32 => mX (mE mtab d) KX9_tellNames 23 [some (.ref q), some (.int l1), some (.int l2), some (.int l3), some (.int l4), none] [.int v1] h) fun v1 => ?_
    refine mX_to 3 (k' := 26) (ls' := [some (.ref q), some (.int l1), some (.int v1), some (.int l3), some (.int l4), none]) (st' := [.ref q, .int l3]) (h' := h) rfl ?_
    refine mX_ckv (v := .ref (gR h q 1)) (v' := .ref (q + 1)) (k' := 27) (ls' := [some (.ref q), some (.int l1), some (.int v1), some (.int l3), some (.int l4), none]) (st' := [.int l3]) (h' := h) (kT0 L T) (congrArg Value.ref (rT1 L T)) rfl ?_
    refine mX_to 1 (k' := 28) (ls' := [some (.ref q), some (.int l1), some (.int v1), some (.int l3), some (.int l4), none]) (st' := [.int l4, .ref (q + 1), .int l3]) (h' := h) rfl ?_
    refine mX_ckw (v := .int (gI h (q + 1) (ix l4))) (v' := .int (gI h (q + 1) (ix l4))) (k' := 29) (ls' := [some (.ref q), some (.int l1), some (.int v1), some (.int l3), some (.int l4), none]) (st' := [.int l3]) (h' := h) (ckA1 (kT1 L T) (nT1 L T)) rfl rfl fun c3 => ?_
    refine mX_to 1 (k' := 30) (ls' := [some (.ref q), some (.int l1), some (.int v1), some (.int l3), some (.int l4), none]) (st' := [.int (l3 + (gI h (q + 1) (ix l4)))]) (h' := h) rfl ?_
    refine lt_gen (X := fun v2 : Int32 => mX (mE mtab d) KX9_tellNames 30 [some (.ref q), some (.int l1), some (.int v1), some (.int l3), some (.int l4), none] [.int v2] h) fun v2 => ?_
    refine mX_to 3 (k' := 6) (ls' := [some (.ref q), some (.int l1), some (.int v1), some (.int v2), some (.int (l4 + 1)), none]) (st' := []) (h' := h) rfl ?_
    rfl
  · refine mX_to 4 (k' := 37) (ls' := [some (.ref q), some (.int l1), some (.int l2), some (.int l3), some (.int 0), some (.int 0)]) (st' := []) (h' := h) rfl ?_
    rfl
theorem S_X9_tellNames_37 {h : MH} (L : lay h) (d : Nat) (q : Nat) (T : tAt q) (l1 : Int32) (l2 : Int32) (l3 : Int32) (l4 : Int32) (l5 : Int32) : G_X9_tellNames_37 d q l1 l2 l3 l4 l5 h = (if l5 < 9 then ck (ib l5 9) (lt_ (l2 + ((gI h (q + 4) (ix l5)) * (l5 - 4))) fun v6 => ck (ib l5 9) (lt_ (l4 + (gI h (q + 4) (ix l5))) fun v7 => G_X9_tellNames_37 d q l1 v6 l3 v7 (l5 + 1) h)) else lt_ (sI h (q + 6) 0 (gI h q 5)) fun h11 => lt_ (sI h11 (q + 6) 1 l2) fun h13 => lt_ (sI h13 (q + 6) 2 (l3 + l4)) fun h15 => lt_ (sI h15 (q + 6) 3 l4) fun h17 => (if l1 < 0 then G_X9_tellNames_91 d q l1 l2 l3 l4 l5 h17 else (if l1 < (gI h17 q 0) then G_X9_tellNames_92 d q l1 l2 l3 l4 l5 1 h17 else G_X9_tellNames_91 d q l1 l2 l3 l4 l5 h17))) := by
  refine mX_to 2 (k' := 39) (ls' := [some (.ref q), some (.int l1), some (.int l2), some (.int l3), some (.int l4), some (.int l5)]) (st' := [.int 9, .int l5]) (h' := h) rfl ?_
  refine mX_br (t := 40) (f := 60) (ls' := [some (.ref q), some (.int l1), some (.int l2), some (.int l3), some (.int l4), some (.int l5)]) (st' := []) (h' := h) rfl ?_ ?_
  · refine mX_to 2 (k' := 42) (ls' := [some (.ref q), some (.int l1), some (.int l2), some (.int l3), some (.int l4), some (.int l5)]) (st' := [.ref q, .int l2]) (h' := h) rfl ?_
    refine mX_ckv (v := .ref (gR h q 4)) (v' := .ref (q + 4)) (k' := 43) (ls' := [some (.ref q), some (.int l1), some (.int l2), some (.int l3), some (.int l4), some (.int l5)]) (st' := [.int l2]) (h' := h) (kT0 L T) (congrArg Value.ref (rT4 L T)) rfl ?_
    refine mX_to 1 (k' := 44) (ls' := [some (.ref q), some (.int l1), some (.int l2), some (.int l3), some (.int l4), some (.int l5)]) (st' := [.int l5, .ref (q + 4), .int l2]) (h' := h) rfl ?_
    refine mX_ckw (v := .int (gI h (q + 4) (ix l5))) (v' := .int (gI h (q + 4) (ix l5))) (k' := 45) (ls' := [some (.ref q), some (.int l1), some (.int l2), some (.int l3), some (.int l4), some (.int l5)]) (st' := [.int l2]) (h' := h) (ckA1 (kT4 L T) (nT4 L T)) rfl rfl fun c9 => ?_
    refine mX_to 5 (k' := 50) (ls' := [some (.ref q), some (.int l1), some (.int l2), some (.int l3), some (.int l4), some (.int l5)]) (st' := [.int (l2 + ((gI h (q + 4) (ix l5)) * (l5 - 4)))]) (h' := h) rfl ?_
    refine lt_gen (X := fun v6 : Int32 => mX (mE mtab d) KX9_tellNames 50 [some (.ref q), some (.int l1), some (.int l2), some (.int l3), some (.int l4), some (.int l5)] [.int v6] h) fun v6 => ?_
    refine mX_to 3 (k' := 53) (ls' := [some (.ref q), some (.int l1), some (.int v6), some (.int l3), some (.int l4), some (.int l5)]) (st' := [.ref q, .int l4]) (h' := h) rfl ?_
    refine mX_ckv (v := .ref (gR h q 4)) (v' := .ref (q + 4)) (k' := 54) (ls' := [some (.ref q), some (.int l1), some (.int v6), some (.int l3), some (.int l4), some (.int l5)]) (st' := [.int l4]) (h' := h) (kT0 L T) (congrArg Value.ref (rT4 L T)) rfl ?_
    refine mX_to 1 (k' := 55) (ls' := [some (.ref q), some (.int l1), some (.int v6), some (.int l3), some (.int l4), some (.int l5)]) (st' := [.int l5, .ref (q + 4), .int l4]) (h' := h) rfl ?_
    refine mX_ckw (v := .int (gI h (q + 4) (ix l5))) (v' := .int (gI h (q + 4) (ix l5))) (k' := 56) (ls' := [some (.ref q), some (.int l1), some (.int v6), some (.int l3), some (.int l4), some (.int l5)]) (st' := [.int l4]) (h' := h) (ckA1 (kT4 L T) (nT4 L T)) rfl rfl fun c8 => ?_
    refine mX_to 1 (k' := 57) (ls' := [some (.ref q), some (.int l1), some (.int v6), some (.int l3), some (.int l4), some (.int l5)]) (st' := [.int (l4 + (gI h (q + 4) (ix l5)))]) (h' := h) rfl ?_
    refine lt_gen (X := fun v7 : Int32 => mX (mE mtab d) KX9_tellNames 57 [some (.ref q), some (.int l1), some (.int v6), some (.int l3), some (.int l4), some (.int l5)] [.int v7] h) fun v7 => ?_
    refine mX_to 3 (k' := 37) (ls' := [some (.ref q), some (.int l1), some (.int v6), some (.int l3), some (.int v7), some (.int (l5 + 1))]) (st' := []) (h' := h) rfl ?_
    rfl
  · refine mX_to 1 (k' := 61) (ls' := [some (.ref q), some (.int l1), some (.int l2), some (.int l3), some (.int l4), some (.int l5)]) (st' := [.ref q]) (h' := h) rfl ?_
    refine mX_ckv (v := .ref (gR h q 10)) (v' := .ref (q + 6)) (k' := 62) (ls' := [some (.ref q), some (.int l1), some (.int l2), some (.int l3), some (.int l4), some (.int l5)]) (st' := []) (h' := h) (kT0 L T) (congrArg Value.ref (rT10 L T)) rfl ?_
    refine mX_to 2 (k' := 64) (ls' := [some (.ref q), some (.int l1), some (.int l2), some (.int l3), some (.int l4), some (.int l5)]) (st' := [.ref q, .int 0, .ref (q + 6)]) (h' := h) rfl ?_
    refine mX_ckv (v := .int (gI h q 5)) (v' := .int (gI h q 5)) (k' := 65) (ls' := [some (.ref q), some (.int l1), some (.int l2), some (.int l3), some (.int l4), some (.int l5)]) (st' := [.int 0, .ref (q + 6)]) (h' := h) (kT0 L T) rfl rfl ?_
    refine mX_ckt (k' := 66) (ls' := [some (.ref q), some (.int l1), some (.int l2), some (.int l3), some (.int l4), some (.int l5)]) (st' := []) (h' := (sI h (q + 6) (ix (0 : Int32)) (gI h q 5))) ((ckA0 (kT6 L T) (nT6 L T)).mpr (ib_lit (n := 0) rfl (by decide) (by decide))) rfl ?_
    refine lt_geq2 (X := fun h11 : MH => mX (mE mtab d) KX9_tellNames 66 [some (.ref q), some (.int l1), some (.int l2), some (.int l3), some (.int l4), some (.int l5)] [] h11) (a := (sI h (q + 6) (ix (0 : Int32)) (gI h q 5))) (a' := (sI h (q + 6) 0 (gI h q 5))) (congrArg (fun j => sI h (q + 6) j (gI h q 5)) (ix_lit (n := 0) rfl (by decide))) fun h11 eh11 => ?_
    have L11 : lay h11 := eh11 ▸ layI L (neT6 T)
    refine mX_to 1 (k' := 67) (ls' := [some (.ref q), some (.int l1), some (.int l2), some (.int l3), some (.int l4), some (.int l5)]) (st' := [.ref q]) (h' := h11) rfl ?_
    refine mX_ckv (v := .ref (gR h11 q 10)) (v' := .ref (q + 6)) (k' := 68) (ls' := [some (.ref q), some (.int l1), some (.int l2), some (.int l3), some (.int l4), some (.int l5)]) (st' := []) (h' := h11) (kT0 L11 T) (congrArg Value.ref (rT10 L11 T)) rfl ?_
    refine mX_to 2 (k' := 70) (ls' := [some (.ref q), some (.int l1), some (.int l2), some (.int l3), some (.int l4), some (.int l5)]) (st' := [.int l2, .int 1, .ref (q + 6)]) (h' := h11) rfl ?_
    refine mX_ckt (k' := 71) (ls' := [some (.ref q), some (.int l1), some (.int l2), some (.int l3), some (.int l4), some (.int l5)]) (st' := []) (h' := (sI h11 (q + 6) (ix (1 : Int32)) l2)) ((ckA0 (kT6 L11 T) (nT6 L11 T)).mpr (ib_lit (n := 1) rfl (by decide) (by decide))) rfl ?_
    refine lt_geq2 (X := fun h13 : MH => mX (mE mtab d) KX9_tellNames 71 [some (.ref q), some (.int l1), some (.int l2), some (.int l3), some (.int l4), some (.int l5)] [] h13) (a := (sI h11 (q + 6) (ix (1 : Int32)) l2)) (a' := (sI h11 (q + 6) 1 l2)) (congrArg (fun j => sI h11 (q + 6) j l2) (ix_lit (n := 1) rfl (by decide))) fun h13 eh13 => ?_
    have L13 : lay h13 := eh13 ▸ layI L11 (neT6 T)
    refine mX_to 1 (k' := 72) (ls' := [some (.ref q), some (.int l1), some (.int l2), some (.int l3), some (.int l4), some (.int l5)]) (st' := [.ref q]) (h' := h13) rfl ?_
    refine mX_ckv (v := .ref (gR h13 q 10)) (v' := .ref (q + 6)) (k' := 73) (ls' := [some (.ref q), some (.int l1), some (.int l2), some (.int l3), some (.int l4), some (.int l5)]) (st' := []) (h' := h13) (kT0 L13 T) (congrArg Value.ref (rT10 L13 T)) rfl ?_
    refine mX_to 4 (k' := 77) (ls' := [some (.ref q), some (.int l1), some (.int l2), some (.int l3), some (.int l4), some (.int l5)]) (st' := [.int (l3 + l4), .int 2, .ref (q + 6)]) (h' := h13) rfl ?_
    refine mX_ckt (k' := 78) (ls' := [some (.ref q), some (.int l1), some (.int l2), some (.int l3), some (.int l4), some (.int l5)]) (st' := []) (h' := (sI h13 (q + 6) (ix (2 : Int32)) (l3 + l4))) ((ckA0 (kT6 L13 T) (nT6 L13 T)).mpr (ib_lit (n := 2) rfl (by decide) (by decide))) rfl ?_
    refine lt_geq2 (X := fun h15 : MH => mX (mE mtab d) KX9_tellNames 78 [some (.ref q), some (.int l1), some (.int l2), some (.int l3), some (.int l4), some (.int l5)] [] h15) (a := (sI h13 (q + 6) (ix (2 : Int32)) (l3 + l4))) (a' := (sI h13 (q + 6) 2 (l3 + l4))) (congrArg (fun j => sI h13 (q + 6) j (l3 + l4)) (ix_lit (n := 2) rfl (by decide))) fun h15 eh15 => ?_
    have L15 : lay h15 := eh15 ▸ layI L13 (neT6 T)
    refine mX_to 1 (k' := 79) (ls' := [some (.ref q), some (.int l1), some (.int l2), some (.int l3), some (.int l4), some (.int l5)]) (st' := [.ref q]) (h' := h15) rfl ?_
    refine mX_ckv (v := .ref (gR h15 q 10)) (v' := .ref (q + 6)) (k' := 80) (ls' := [some (.ref q), some (.int l1), some (.int l2), some (.int l3), some (.int l4), some (.int l5)]) (st' := []) (h' := h15) (kT0 L15 T) (congrArg Value.ref (rT10 L15 T)) rfl ?_
    refine mX_to 2 (k' := 82) (ls' := [some (.ref q), some (.int l1), some (.int l2), some (.int l3), some (.int l4), some (.int l5)]) (st' := [.int l4, .int 3, .ref (q + 6)]) (h' := h15) rfl ?_
    refine mX_ckt (k' := 83) (ls' := [some (.ref q), some (.int l1), some (.int l2), some (.int l3), some (.int l4), some (.int l5)]) (st' := []) (h' := (sI h15 (q + 6) (ix (3 : Int32)) l4)) ((ckA0 (kT6 L15 T) (nT6 L15 T)).mpr (ib_lit (n := 3) rfl (by decide) (by decide))) rfl ?_
    refine lt_geq2 (X := fun h17 : MH => mX (mE mtab d) KX9_tellNames 83 [some (.ref q), some (.int l1), some (.int l2), some (.int l3), some (.int l4), some (.int l5)] [] h17) (a := (sI h15 (q + 6) (ix (3 : Int32)) l4)) (a' := (sI h15 (q + 6) 3 l4)) (congrArg (fun j => sI h15 (q + 6) j l4) (ix_lit (n := 3) rfl (by decide))) fun h17 eh17 => ?_
    have L17 : lay h17 := eh17 ▸ layI L15 (neT6 T)
    refine mX_to 1 (k' := 84) (ls' := [some (.ref q), some (.int l1), some (.int l2), some (.int l3), some (.int l4), some (.int l5)]) (st' := [.int l1]) (h' := h17) rfl ?_
    refine mX_br (t := 91) (f := 85) (ls' := [some (.ref q), some (.int l1), some (.int l2), some (.int l3), some (.int l4), some (.int l5)]) (st' := []) (h' := h17) rfl ?_ ?_
    · rfl
    · refine mX_to 2 (k' := 87) (ls' := [some (.ref q), some (.int l1), some (.int l2), some (.int l3), some (.int l4), some (.int l5)]) (st' := [.ref q, .int l1]) (h' := h17) rfl ?_
      refine mX_ckv (v := .int (gI h17 q 0)) (v' := .int (gI h17 q 0)) (k' := 88) (ls' := [some (.ref q), some (.int l1), some (.int l2), some (.int l3), some (.int l4), some (.int l5)]) (st' := [.int l1]) (h' := h17) (kT0 L17 T) rfl rfl ?_
      refine mX_br (t := 89) (f := 91) (ls' := [some (.ref q), some (.int l1), some (.int l2), some (.int l3), some (.int l4), some (.int l5)]) (st' := []) (h' := h17) rfl ?_ ?_
      · refine mX_to 2 (k' := 92) (ls' := [some (.ref q), some (.int l1), some (.int l2), some (.int l3), some (.int l4), some (.int l5)]) (st' := [.int 1]) (h' := h17) rfl ?_
        rfl
      · rfl
theorem S_X9_tellNames_91 {h : MH} (L : lay h) (d : Nat) (q : Nat) (T : tAt q) (l1 : Int32) (l2 : Int32) (l3 : Int32) (l4 : Int32) (l5 : Int32) : G_X9_tellNames_91 d q l1 l2 l3 l4 l5 h = G_X9_tellNames_92 d q l1 l2 l3 l4 l5 0 h := by
  refine mX_to 1 (k' := 92) (ls' := [some (.ref q), some (.int l1), some (.int l2), some (.int l3), some (.int l4), some (.int l5)]) (st' := [.int 0]) (h' := h) rfl ?_
  rfl
theorem S_X9_tellNames_92 {h : MH} (L : lay h) (d : Nat) (q : Nat) (T : tAt q) (l1 : Int32) (l2 : Int32) (l3 : Int32) (l4 : Int32) (l5 : Int32) (s0 : Int32) : G_X9_tellNames_92 d q l1 l2 l3 l4 l5 s0 h = (if s0 = 0 then G_X9_tellNames_101 d q l1 l2 l3 l4 s0 0 4 h else G_X9_tellNames_101 d q l1 l2 l3 l4 s0 l1 4 h) := by
  refine mX_to 2 (k' := 94) (ls' := [some (.ref q), some (.int l1), some (.int l2), some (.int l3), some (.int l4), some (.int s0)]) (st' := [.ref q]) (h' := h) rfl ?_
  refine mX_ckv (v := .ref (gR h q 10)) (v' := .ref (q + 6)) (k' := 95) (ls' := [some (.ref q), some (.int l1), some (.int l2), some (.int l3), some (.int l4), some (.int s0)]) (st' := []) (h' := h) (kT0 L T) (congrArg Value.ref (rT10 L T)) rfl ?_
  refine mX_to 2 (k' := 97) (ls' := [some (.ref q), some (.int l1), some (.int l2), some (.int l3), some (.int l4), some (.int s0)]) (st' := [.int s0, .int 4, .ref (q + 6)]) (h' := h) rfl ?_
  refine mX_br (t := 100) (f := 98) (ls' := [some (.ref q), some (.int l1), some (.int l2), some (.int l3), some (.int l4), some (.int s0)]) (st' := [.int 4, .ref (q + 6)]) (h' := h) rfl ?_ ?_
  · refine mX_to 1 (k' := 101) (ls' := [some (.ref q), some (.int l1), some (.int l2), some (.int l3), some (.int l4), some (.int s0)]) (st' := [.int 0, .int 4, .ref (q + 6)]) (h' := h) rfl ?_
    rfl
  · refine mX_to 2 (k' := 101) (ls' := [some (.ref q), some (.int l1), some (.int l2), some (.int l3), some (.int l4), some (.int s0)]) (st' := [.int l1, .int 4, .ref (q + 6)]) (h' := h) rfl ?_
    rfl
theorem S_X9_tellNames_101 {h : MH} (L : lay h) (d : Nat) (q : Nat) (T : tAt q) (l1 : Int32) (l2 : Int32) (l3 : Int32) (l4 : Int32) (l5 : Int32) (s0 : Int32) (s1 : Int32) : G_X9_tellNames_101 d q l1 l2 l3 l4 l5 s0 s1 h = ck (ib s1 7) (lt_ (sI h (q + 6) (ix s1) s0) fun h19 => (if l5 = 0 then G_X9_tellNames_113 d q l1 l2 l3 l4 l5 0 5 h19 else ck (ib l1 4) (G_X9_tellNames_113 d q l1 l2 l3 l4 l5 (gI h19 (q + 1) (ix l1)) 5 h19))) := by
  refine mX_cki (k' := 102) (ls' := [some (.ref q), some (.int l1), some (.int l2), some (.int l3), some (.int l4), some (.int l5)]) (st' := []) (h' := (sI h (q + 6) (ix s1) s0)) (ckA0 (kT6 L T) (nT6 L T)) rfl fun c18 => ?_
  refine lt_geq2 (X := fun h19 : MH => mX (mE mtab d) KX9_tellNames 102 [some (.ref q), some (.int l1), some (.int l2), some (.int l3), some (.int l4), some (.int l5)] [] h19) (a := (sI h (q + 6) (ix s1) s0)) (a' := (sI h (q + 6) (ix s1) s0)) rfl fun h19 eh19 => ?_
  have L19 : lay h19 := eh19 ▸ layI L (neT6 T)
  refine mX_to 1 (k' := 103) (ls' := [some (.ref q), some (.int l1), some (.int l2), some (.int l3), some (.int l4), some (.int l5)]) (st' := [.ref q]) (h' := h19) rfl ?_
  refine mX_ckv (v := .ref (gR h19 q 10)) (v' := .ref (q + 6)) (k' := 104) (ls' := [some (.ref q), some (.int l1), some (.int l2), some (.int l3), some (.int l4), some (.int l5)]) (st' := []) (h' := h19) (kT0 L19 T) (congrArg Value.ref (rT10 L19 T)) rfl ?_
  refine mX_to 2 (k' := 106) (ls' := [some (.ref q), some (.int l1), some (.int l2), some (.int l3), some (.int l4), some (.int l5)]) (st' := [.int l5, .int 5, .ref (q + 6)]) (h' := h19) rfl ?_
  refine mX_br (t := 112) (f := 107) (ls' := [some (.ref q), some (.int l1), some (.int l2), some (.int l3), some (.int l4), some (.int l5)]) (st' := [.int 5, .ref (q + 6)]) (h' := h19) rfl ?_ ?_
  · refine mX_to 1 (k' := 113) (ls' := [some (.ref q), some (.int l1), some (.int l2), some (.int l3), some (.int l4), some (.int l5)]) (st' := [.int 0, .int 5, .ref (q + 6)]) (h' := h19) rfl ?_
    rfl
  · refine mX_to 1 (k' := 108) (ls' := [some (.ref q), some (.int l1), some (.int l2), some (.int l3), some (.int l4), some (.int l5)]) (st' := [.ref q, .int 5, .ref (q + 6)]) (h' := h19) rfl ?_
    refine mX_ckv (v := .ref (gR h19 q 1)) (v' := .ref (q + 1)) (k' := 109) (ls' := [some (.ref q), some (.int l1), some (.int l2), some (.int l3), some (.int l4), some (.int l5)]) (st' := [.int 5, .ref (q + 6)]) (h' := h19) (kT0 L19 T) (congrArg Value.ref (rT1 L19 T)) rfl ?_
    refine mX_to 1 (k' := 110) (ls' := [some (.ref q), some (.int l1), some (.int l2), some (.int l3), some (.int l4), some (.int l5)]) (st' := [.int l1, .ref (q + 1), .int 5, .ref (q + 6)]) (h' := h19) rfl ?_
    refine mX_ckw (v := .int (gI h19 (q + 1) (ix l1))) (v' := .int (gI h19 (q + 1) (ix l1))) (k' := 111) (ls' := [some (.ref q), some (.int l1), some (.int l2), some (.int l3), some (.int l4), some (.int l5)]) (st' := [.int 5, .ref (q + 6)]) (h' := h19) (ckA1 (kT1 L19 T) (nT1 L19 T)) rfl rfl fun c20 => ?_
    refine mX_to 1 (k' := 113) (ls' := [some (.ref q), some (.int l1), some (.int l2), some (.int l3), some (.int l4), some (.int l5)]) (st' := [.int (gI h19 (q + 1) (ix l1)), .int 5, .ref (q + 6)]) (h' := h19) rfl ?_
    rfl
theorem S_X9_tellNames_113 {h : MH} (L : lay h) (d : Nat) (q : Nat) (T : tAt q) (l1 : Int32) (l2 : Int32) (l3 : Int32) (l4 : Int32) (l5 : Int32) (s0 : Int32) (s1 : Int32) : G_X9_tellNames_113 d q l1 l2 l3 l4 l5 s0 s1 h = ck (ib s1 7) (lt_ (sI h (q + 6) (ix s1) s0) fun h22 => (if l5 = 0 then G_X9_tellNames_125 d q l1 l2 l3 l4 l5 0 6 h22 else ck (ib l1 4) (G_X9_tellNames_125 d q l1 l2 l3 l4 l5 (gI h22 (q + 2) (ix l1)) 6 h22))) := by
  refine mX_cki (k' := 114) (ls' := [some (.ref q), some (.int l1), some (.int l2), some (.int l3), some (.int l4), some (.int l5)]) (st' := []) (h' := (sI h (q + 6) (ix s1) s0)) (ckA0 (kT6 L T) (nT6 L T)) rfl fun c21 => ?_
  refine lt_geq2 (X := fun h22 : MH => mX (mE mtab d) KX9_tellNames 114 [some (.ref q), some (.int l1), some (.int l2), some (.int l3), some (.int l4), some (.int l5)] [] h22) (a := (sI h (q + 6) (ix s1) s0)) (a' := (sI h (q + 6) (ix s1) s0)) rfl fun h22 eh22 => ?_
  have L22 : lay h22 := eh22 ▸ layI L (neT6 T)
  refine mX_to 1 (k' := 115) (ls' := [some (.ref q), some (.int l1), some (.int l2), some (.int l3), some (.int l4), some (.int l5)]) (st' := [.ref q]) (h' := h22) rfl ?_
  refine mX_ckv (v := .ref (gR h22 q 10)) (v' := .ref (q + 6)) (k' := 116) (ls' := [some (.ref q), some (.int l1), some (.int l2), some (.int l3), some (.int l4), some (.int l5)]) (st' := []) (h' := h22) (kT0 L22 T) (congrArg Value.ref (rT10 L22 T)) rfl ?_
  refine mX_to 2 (k' := 118) (ls' := [some (.ref q), some (.int l1), some (.int l2), some (.int l3), some (.int l4), some (.int l5)]) (st' := [.int l5, .int 6, .ref (q + 6)]) (h' := h22) rfl ?_
  refine mX_br (t := 124) (f := 119) (ls' := [some (.ref q), some (.int l1), some (.int l2), some (.int l3), some (.int l4), some (.int l5)]) (st' := [.int 6, .ref (q + 6)]) (h' := h22) rfl ?_ ?_
  · refine mX_to 1 (k' := 125) (ls' := [some (.ref q), some (.int l1), some (.int l2), some (.int l3), some (.int l4), some (.int l5)]) (st' := [.int 0, .int 6, .ref (q + 6)]) (h' := h22) rfl ?_
    rfl
  · refine mX_to 1 (k' := 120) (ls' := [some (.ref q), some (.int l1), some (.int l2), some (.int l3), some (.int l4), some (.int l5)]) (st' := [.ref q, .int 6, .ref (q + 6)]) (h' := h22) rfl ?_
    refine mX_ckv (v := .ref (gR h22 q 2)) (v' := .ref (q + 2)) (k' := 121) (ls' := [some (.ref q), some (.int l1), some (.int l2), some (.int l3), some (.int l4), some (.int l5)]) (st' := [.int 6, .ref (q + 6)]) (h' := h22) (kT0 L22 T) (congrArg Value.ref (rT2 L22 T)) rfl ?_
    refine mX_to 1 (k' := 122) (ls' := [some (.ref q), some (.int l1), some (.int l2), some (.int l3), some (.int l4), some (.int l5)]) (st' := [.int l1, .ref (q + 2), .int 6, .ref (q + 6)]) (h' := h22) rfl ?_
    refine mX_ckw (v := .int (gI h22 (q + 2) (ix l1))) (v' := .int (gI h22 (q + 2) (ix l1))) (k' := 123) (ls' := [some (.ref q), some (.int l1), some (.int l2), some (.int l3), some (.int l4), some (.int l5)]) (st' := [.int 6, .ref (q + 6)]) (h' := h22) (ckA1 (kT2 L22 T) (nT2 L22 T)) rfl rfl fun c23 => ?_
    refine mX_to 1 (k' := 125) (ls' := [some (.ref q), some (.int l1), some (.int l2), some (.int l3), some (.int l4), some (.int l5)]) (st' := [.int (gI h22 (q + 2) (ix l1)), .int 6, .ref (q + 6)]) (h' := h22) rfl ?_
    rfl
theorem S_X9_tellNames_125 {h : MH} (L : lay h) (d : Nat) (q : Nat) (T : tAt q) (l1 : Int32) (l2 : Int32) (l3 : Int32) (l4 : Int32) (l5 : Int32) (s0 : Int32) (s1 : Int32) : G_X9_tellNames_125 d q l1 l2 l3 l4 l5 s0 s1 h = ck (ib s1 7) (lt_ (sI h (q + 6) (ix s1) s0) fun h25 => some (.int 0, h25)) := by
  refine mX_cki (k' := 126) (ls' := [some (.ref q), some (.int l1), some (.int l2), some (.int l3), some (.int l4), some (.int l5)]) (st' := []) (h' := (sI h (q + 6) (ix s1) s0)) (ckA0 (kT6 L T) (nT6 L T)) rfl fun c24 => ?_
  refine lt_geq2 (X := fun h25 : MH => mX (mE mtab d) KX9_tellNames 126 [some (.ref q), some (.int l1), some (.int l2), some (.int l3), some (.int l4), some (.int l5)] [] h25) (a := (sI h (q + 6) (ix s1) s0)) (a' := (sI h (q + 6) (ix s1) s0)) rfl fun h25 eh25 => ?_
  have L25 : lay h25 := eh25 ▸ layI L (neT6 T)
  exact mX_ret rfl
theorem S_X9_tellNames {h : MH} (L : lay h) (d : Nat) (q : Nat) (a1 : Int32) (T : tAt q) : F_X9_tellNames (d + 1) q a1 h = G_X9_tellNames_6 d q a1 0 0 0 h := by
  refine mE_eq (q := (yX9_tellNames, cX9_tellNames, 6, none, KX9_tellNames)) (C := KX9_tellNames) (ls := [some (.ref q), some (.int a1), none, none, none, none]) rfl rfl rfl rfl ?_
  refine mX_to 6 (k' := 6) (ls' := [some (.ref q), some (.int a1), some (.int 0), some (.int 0), some (.int 0), none]) (st' := []) (h' := h) rfl ?_
  rfl
theorem S_X9_weightAt_14 {h : MH} (L : lay h) (d : Nat) (q : Nat) (T : tAt q) (l1 : Int32) (l2 : Int32) (l3 : Int32) : G_X9_weightAt_14 d q l1 l2 l3 h = (if l3 < (gI h q 0) then ck (ib l3 4) ((if (gI h (q + 2) (ix l3)) = l1 then ck (ib l3 4) (G_X9_weightAt_31 d q l1 l2 l3 (gI h (q + 1) (ix l3)) l2 h) else G_X9_weightAt_31 d q l1 l2 l3 0 l2 h)) else some (.int l2, h)) := by
  refine mX_to 2 (k' := 16) (ls' := [some (.ref q), some (.int l1), some (.int l2), some (.int l3)]) (st' := [.ref q, .int l3]) (h' := h) rfl ?_
  refine mX_ckv (v := .int (gI h q 0)) (v' := .int (gI h q 0)) (k' := 17) (ls' := [some (.ref q), some (.int l1), some (.int l2), some (.int l3)]) (st' := [.int l3]) (h' := h) (kT0 L T) rfl rfl ?_
  refine mX_br (t := 18) (f := 35) (ls' := [some (.ref q), some (.int l1), some (.int l2), some (.int l3)]) (st' := []) (h' := h) rfl ?_ ?_
  · refine mX_to 2 (k' := 20) (ls' := [some (.ref q), some (.int l1), some (.int l2), some (.int l3)]) (st' := [.ref q, .int l2]) (h' := h) rfl ?_
    refine mX_ckv (v := .ref (gR h q 2)) (v' := .ref (q + 2)) (k' := 21) (ls' := [some (.ref q), some (.int l1), some (.int l2), some (.int l3)]) (st' := [.int l2]) (h' := h) (kT0 L T) (congrArg Value.ref (rT2 L T)) rfl ?_
    refine mX_to 1 (k' := 22) (ls' := [some (.ref q), some (.int l1), some (.int l2), some (.int l3)]) (st' := [.int l3, .ref (q + 2), .int l2]) (h' := h) rfl ?_
    refine mX_ckw (v := .int (gI h (q + 2) (ix l3))) (v' := .int (gI h (q + 2) (ix l3))) (k' := 23) (ls' := [some (.ref q), some (.int l1), some (.int l2), some (.int l3)]) (st' := [.int l2]) (h' := h) (ckA1 (kT2 L T) (nT2 L T)) rfl rfl fun c4 => ?_
    refine mX_to 1 (k' := 24) (ls' := [some (.ref q), some (.int l1), some (.int l2), some (.int l3)]) (st' := [.int l1, .int (gI h (q + 2) (ix l3)), .int l2]) (h' := h) rfl ?_
    refine mX_br (t := 25) (f := 30) (ls' := [some (.ref q), some (.int l1), some (.int l2), some (.int l3)]) (st' := [.int l2]) (h' := h) rfl ?_ ?_
    · refine mX_to 1 (k' := 26) (ls' := [some (.ref q), some (.int l1), some (.int l2), some (.int l3)]) (st' := [.ref q, .int l2]) (h' := h) rfl ?_
      refine mX_ckv (v := .ref (gR h q 1)) (v' := .ref (q + 1)) (k' := 27) (ls' := [some (.ref q), some (.int l1), some (.int l2), some (.int l3)]) (st' := [.int l2]) (h' := h) (kT0 L T) (congrArg Value.ref (rT1 L T)) rfl ?_
      refine mX_to 1 (k' := 28) (ls' := [some (.ref q), some (.int l1), some (.int l2), some (.int l3)]) (st' := [.int l3, .ref (q + 1), .int l2]) (h' := h) rfl ?_
      refine mX_ckw (v := .int (gI h (q + 1) (ix l3))) (v' := .int (gI h (q + 1) (ix l3))) (k' := 29) (ls' := [some (.ref q), some (.int l1), some (.int l2), some (.int l3)]) (st' := [.int l2]) (h' := h) (ckA1 (kT1 L T) (nT1 L T)) rfl rfl fun c3 => ?_
      refine mX_to 1 (k' := 31) (ls' := [some (.ref q), some (.int l1), some (.int l2), some (.int l3)]) (st' := [.int (gI h (q + 1) (ix l3)), .int l2]) (h' := h) rfl ?_
      rfl
    · refine mX_to 1 (k' := 31) (ls' := [some (.ref q), some (.int l1), some (.int l2), some (.int l3)]) (st' := [.int 0, .int l2]) (h' := h) rfl ?_
      rfl
  · refine mX_to 1 (k' := 36) (ls' := [some (.ref q), some (.int l1), some (.int l2), some (.int l3)]) (st' := [.int l2]) (h' := h) rfl ?_
    exact mX_reti rfl
theorem S_X9_weightAt_31 {h : MH} (L : lay h) (d : Nat) (q : Nat) (T : tAt q) (l1 : Int32) (l2 : Int32) (l3 : Int32) (s0 : Int32) (s1 : Int32) : G_X9_weightAt_31 d q l1 l2 l3 s0 s1 h = G_X9_weightAt_14 d q l1 (s1 + s0) (l3 + 1) h := by
  refine mX_to 4 (k' := 14) (ls' := [some (.ref q), some (.int l1), some (.int (s1 + s0)), some (.int (l3 + 1))]) (st' := []) (h' := h) rfl ?_
  rfl
theorem S_X9_weightAt {h : MH} (L : lay h) (d : Nat) (q : Nat) (a1 : Int32) (T : tAt q) : F_X9_weightAt (d + 1) q a1 h = (if a1 < 0 then some (.int 0, h) else (if a1 < 9 then ck (ib a1 9) (lt_ (gI h (q + 4) (ix a1)) fun v1 => G_X9_weightAt_14 d q a1 v1 0 h) else some (.int 0, h))) := by
  refine mE_eq (q := (yX9_weightAt, cX9_weightAt, 4, (some .int), KX9_weightAt)) (C := KX9_weightAt) (ls := [some (.ref q), some (.int a1), none, none]) rfl rfl rfl rfl ?_
  refine mX_to 1 (k' := 1) (ls' := [some (.ref q), some (.int a1), none, none]) (st' := [.int a1]) (h' := h) rfl ?_
  refine mX_br (t := 5) (f := 2) (ls' := [some (.ref q), some (.int a1), none, none]) (st' := []) (h' := h) rfl ?_ ?_
  · refine mX_to 1 (k' := 6) (ls' := [some (.ref q), some (.int a1), none, none]) (st' := [.int 0]) (h' := h) rfl ?_
    exact mX_reti rfl
  · refine mX_to 2 (k' := 4) (ls' := [some (.ref q), some (.int a1), none, none]) (st' := [.int 9, .int a1]) (h' := h) rfl ?_
    refine mX_br (t := 7) (f := 5) (ls' := [some (.ref q), some (.int a1), none, none]) (st' := []) (h' := h) rfl ?_ ?_
    · refine mX_to 1 (k' := 8) (ls' := [some (.ref q), some (.int a1), none, none]) (st' := [.ref q]) (h' := h) rfl ?_
      refine mX_ckv (v := .ref (gR h q 4)) (v' := .ref (q + 4)) (k' := 9) (ls' := [some (.ref q), some (.int a1), none, none]) (st' := []) (h' := h) (kT0 L T) (congrArg Value.ref (rT4 L T)) rfl ?_
      refine mX_to 1 (k' := 10) (ls' := [some (.ref q), some (.int a1), none, none]) (st' := [.int a1, .ref (q + 4)]) (h' := h) rfl ?_
      refine mX_ckw (v := .int (gI h (q + 4) (ix a1))) (v' := .int (gI h (q + 4) (ix a1))) (k' := 11) (ls' := [some (.ref q), some (.int a1), none, none]) (st' := []) (h' := h) (ckA1 (kT4 L T) (nT4 L T)) rfl rfl fun c2 => ?_
      refine lt_gen (X := fun v1 : Int32 => mX (mE mtab d) KX9_weightAt 11 [some (.ref q), some (.int a1), none, none] [.int v1] h) fun v1 => ?_
      refine mX_to 3 (k' := 14) (ls' := [some (.ref q), some (.int a1), some (.int v1), some (.int 0)]) (st' := []) (h' := h) rfl ?_
      rfl
    · refine mX_to 1 (k' := 6) (ls' := [some (.ref q), some (.int a1), none, none]) (st' := [.int 0]) (h' := h) rfl ?_
      exact mX_reti rfl
theorem S_X3_ofOne {h : MH} (L : lay h) (d : Nat) (a0 : Int32) (a1 : Int32) : F_X3_ofOne (d + 1) a0 a1 h = (if a0 = 4 then some (.int (-a1), h) else (if a0 = 5 then (if a1 ≤ 0 then (if a1 < 0 then some (.int (-1), h) else some (.int 0, h)) else some (.int 1, h)) else (if a1 = 0 then some (.int 1, h) else some (.int 0, h)))) := by
  refine mE_eq (q := (yX3_ofOne, cX3_ofOne, 2, (some .int), KX3_ofOne)) (C := KX3_ofOne) (ls := [some (.int a0), some (.int a1)]) rfl rfl rfl rfl ?_
  refine mX_to 1 (k' := 1) (ls' := [some (.int a0), some (.int a1)]) (st' := [.int a0]) (h' := h) rfl ?_
  refine mX_sw (x := a0) (t := 15) (sw := [(4, 2), (5, 5)]) (ls' := [some (.int a0), some (.int a1)]) (st' := []) (h' := h) rfl ?_
  refine msw_cons ?_ ?_
  · refine mX_to 2 (k' := 4) (ls' := [some (.int a0), some (.int a1)]) (st' := [.int (-a1)]) (h' := h) rfl ?_
    exact mX_reti rfl
  refine msw_cons ?_ ?_
  · refine mX_to 1 (k' := 6) (ls' := [some (.int a0), some (.int a1)]) (st' := [.int a1]) (h' := h) rfl ?_
    refine mX_br (t := 9) (f := 7) (ls' := [some (.int a0), some (.int a1)]) (st' := []) (h' := h) rfl ?_ ?_
    · refine mX_to 1 (k' := 10) (ls' := [some (.int a0), some (.int a1)]) (st' := [.int a1]) (h' := h) rfl ?_
      refine mX_br (t := 11) (f := 13) (ls' := [some (.int a0), some (.int a1)]) (st' := []) (h' := h) rfl ?_ ?_
      · refine mX_to 2 (k' := 14) (ls' := [some (.int a0), some (.int a1)]) (st' := [.int (-1)]) (h' := h) rfl ?_
        exact mX_reti rfl
      · refine mX_to 1 (k' := 14) (ls' := [some (.int a0), some (.int a1)]) (st' := [.int 0]) (h' := h) rfl ?_
        exact mX_reti rfl
    · refine mX_to 2 (k' := 14) (ls' := [some (.int a0), some (.int a1)]) (st' := [.int 1]) (h' := h) rfl ?_
      exact mX_reti rfl
  refine msw_nil ?_
  refine mX_to 1 (k' := 16) (ls' := [some (.int a0), some (.int a1)]) (st' := [.int a1]) (h' := h) rfl ?_
  refine mX_br (t := 17) (f := 19) (ls' := [some (.int a0), some (.int a1)]) (st' := []) (h' := h) rfl ?_ ?_
  · refine mX_to 2 (k' := 20) (ls' := [some (.int a0), some (.int a1)]) (st' := [.int 1]) (h' := h) rfl ?_
    exact mX_reti rfl
  · refine mX_to 1 (k' := 20) (ls' := [some (.int a0), some (.int a1)]) (st' := [.int 0]) (h' := h) rfl ?_
    exact mX_reti rfl
theorem S_X3_ofTwo_84 {h : MH} (L : lay h) (d : Nat) (l0 : Int32) (l1 : Int32) (l2 : Int32) (l3 : Int64) : G_X3_ofTwo_84 d l0 l1 l2 l3 h = (if (lg_cmp l3 1000000) ≤ 0 then (if (lg_cmp l3 (-1000000)) < 0 then some (.int (-1000000), h) else some (.int ((l3 : Int64).toInt32), h)) else some (.int 1000000, h)) := by
  refine mX_to 3 (k' := 87) (ls' := [some (.int l0), some (.int l1), some (.int l2), some (.long l3), none]) (st' := [.int (lg_cmp l3 1000000)]) (h' := h) rfl ?_
  refine mX_br (t := 90) (f := 88) (ls' := [some (.int l0), some (.int l1), some (.int l2), some (.long l3), none]) (st' := []) (h' := h) rfl ?_ ?_
  · refine mX_to 3 (k' := 93) (ls' := [some (.int l0), some (.int l1), some (.int l2), some (.long l3), none]) (st' := [.int (lg_cmp l3 (-1000000))]) (h' := h) rfl ?_
    refine mX_br (t := 94) (f := 96) (ls' := [some (.int l0), some (.int l1), some (.int l2), some (.long l3), none]) (st' := []) (h' := h) rfl ?_ ?_
    · refine mX_to 2 (k' := 98) (ls' := [some (.int l0), some (.int l1), some (.int l2), some (.long l3), none]) (st' := [.int (-1000000)]) (h' := h) rfl ?_
      exact mX_reti rfl
    · refine mX_to 2 (k' := 98) (ls' := [some (.int l0), some (.int l1), some (.int l2), some (.long l3), none]) (st' := [.int ((l3 : Int64).toInt32)]) (h' := h) rfl ?_
      exact mX_reti rfl
  · refine mX_to 2 (k' := 98) (ls' := [some (.int l0), some (.int l1), some (.int l2), some (.long l3), none]) (st' := [.int 1000000]) (h' := h) rfl ?_
    exact mX_reti rfl
theorem S_X3_ofTwo_83 {h : MH} (L : lay h) (d : Nat) (l0 : Int32) (l1 : Int32) (l2 : Int32) (s0 : Int64) : G_X3_ofTwo_83 d l0 l1 l2 s0 h = G_X3_ofTwo_84 d l0 l1 l2 s0 h := by
  refine mX_to 1 (k' := 84) (ls' := [some (.int l0), some (.int l1), some (.int l2), some (.long s0), none]) (st' := []) (h' := h) rfl ?_
  rfl
theorem S_X3_ofTwo {h : MH} (L : lay h) (d : Nat) (a0 : Int32) (a1 : Int32) (a2 : Int32) : F_X3_ofTwo (d + 1) a0 a1 a2 h = (if a0 = 12 then (if a1 < a2 then some (.int 1, h) else some (.int 0, h)) else (if a0 = 13 then (if a1 ≤ a2 then some (.int 1, h) else some (.int 0, h)) else (if a0 = 14 then (if a1 ≤ a2 then some (.int 0, h) else some (.int 1, h)) else (if a0 = 15 then (if a1 < a2 then some (.int 0, h) else some (.int 1, h)) else (if a0 = 16 then (if a1 = a2 then some (.int 1, h) else some (.int 0, h)) else (if a0 = 17 then (if a1 = a2 then some (.int 0, h) else some (.int 1, h)) else (if a0 = 18 then some (.int (a1 ||| a2), h) else (if a0 = 19 then some (.int (a1 &&& a2), h) else (if a0 = 8 then lt_ (((a1 : Int32).toInt64) + ((a2 : Int32).toInt64)) fun v1 => G_X3_ofTwo_84 d a0 a1 a2 v1 h else (if a0 = 9 then lt_ (((a1 : Int32).toInt64) - ((a2 : Int32).toInt64)) fun v2 => G_X3_ofTwo_84 d a0 a1 a2 v2 h else (if a0 = 10 then lt_ (((a1 : Int32).toInt64) * ((a2 : Int32).toInt64)) fun v3 => G_X3_ofTwo_84 d a0 a1 a2 v3 h else (if a2 = 0 then G_X3_ofTwo_83 d a0 a1 a2 0 h else ck (¬ a2 = 0) (G_X3_ofTwo_83 d a0 a1 a2 (((a1 / a2) : Int32).toInt64) h))))))))))))) := by
  refine mE_eq (q := (yX3_ofTwo, cX3_ofTwo, 5, (some .int), KX3_ofTwo)) (C := KX3_ofTwo) (ls := [some (.int a0), some (.int a1), some (.int a2), none, none]) rfl rfl rfl rfl ?_
  refine mX_to 1 (k' := 1) (ls' := [some (.int a0), some (.int a1), some (.int a2), none, none]) (st' := [.int a0]) (h' := h) rfl ?_
  refine mX_sw (x := a0) (t := 52) (sw := [(12, 2), (13, 9), (14, 16), (15, 23), (16, 30), (17, 37), (18, 44), (19, 48)]) (ls' := [some (.int a0), some (.int a1), some (.int a2), none, none]) (st' := []) (h' := h) rfl ?_
  refine msw_cons ?_ ?_
  · refine mX_to 2 (k' := 4) (ls' := [some (.int a0), some (.int a1), some (.int a2), none, none]) (st' := [.int a2, .int a1]) (h' := h) rfl ?_
    refine mX_br (t := 5) (f := 7) (ls' := [some (.int a0), some (.int a1), some (.int a2), none, none]) (st' := []) (h' := h) rfl ?_ ?_
    · refine mX_to 2 (k' := 8) (ls' := [some (.int a0), some (.int a1), some (.int a2), none, none]) (st' := [.int 1]) (h' := h) rfl ?_
      exact mX_reti rfl
    · refine mX_to 1 (k' := 8) (ls' := [some (.int a0), some (.int a1), some (.int a2), none, none]) (st' := [.int 0]) (h' := h) rfl ?_
      exact mX_reti rfl
  refine msw_cons ?_ ?_
  · refine mX_to 2 (k' := 11) (ls' := [some (.int a0), some (.int a1), some (.int a2), none, none]) (st' := [.int a2, .int a1]) (h' := h) rfl ?_
    refine mX_br (t := 12) (f := 14) (ls' := [some (.int a0), some (.int a1), some (.int a2), none, none]) (st' := []) (h' := h) rfl ?_ ?_
    · refine mX_to 2 (k' := 15) (ls' := [some (.int a0), some (.int a1), some (.int a2), none, none]) (st' := [.int 1]) (h' := h) rfl ?_
      exact mX_reti rfl
    · refine mX_to 1 (k' := 15) (ls' := [some (.int a0), some (.int a1), some (.int a2), none, none]) (st' := [.int 0]) (h' := h) rfl ?_
      exact mX_reti rfl
  refine msw_cons ?_ ?_
  · refine mX_to 2 (k' := 18) (ls' := [some (.int a0), some (.int a1), some (.int a2), none, none]) (st' := [.int a2, .int a1]) (h' := h) rfl ?_
    refine mX_br (t := 21) (f := 19) (ls' := [some (.int a0), some (.int a1), some (.int a2), none, none]) (st' := []) (h' := h) rfl ?_ ?_
    · refine mX_to 1 (k' := 22) (ls' := [some (.int a0), some (.int a1), some (.int a2), none, none]) (st' := [.int 0]) (h' := h) rfl ?_
      exact mX_reti rfl
    · refine mX_to 2 (k' := 22) (ls' := [some (.int a0), some (.int a1), some (.int a2), none, none]) (st' := [.int 1]) (h' := h) rfl ?_
      exact mX_reti rfl
  refine msw_cons ?_ ?_
  · refine mX_to 2 (k' := 25) (ls' := [some (.int a0), some (.int a1), some (.int a2), none, none]) (st' := [.int a2, .int a1]) (h' := h) rfl ?_
    refine mX_br (t := 28) (f := 26) (ls' := [some (.int a0), some (.int a1), some (.int a2), none, none]) (st' := []) (h' := h) rfl ?_ ?_
    · refine mX_to 1 (k' := 29) (ls' := [some (.int a0), some (.int a1), some (.int a2), none, none]) (st' := [.int 0]) (h' := h) rfl ?_
      exact mX_reti rfl
    · refine mX_to 2 (k' := 29) (ls' := [some (.int a0), some (.int a1), some (.int a2), none, none]) (st' := [.int 1]) (h' := h) rfl ?_
      exact mX_reti rfl
  refine msw_cons ?_ ?_
  · refine mX_to 2 (k' := 32) (ls' := [some (.int a0), some (.int a1), some (.int a2), none, none]) (st' := [.int a2, .int a1]) (h' := h) rfl ?_
    refine mX_br (t := 33) (f := 35) (ls' := [some (.int a0), some (.int a1), some (.int a2), none, none]) (st' := []) (h' := h) rfl ?_ ?_
    · refine mX_to 2 (k' := 36) (ls' := [some (.int a0), some (.int a1), some (.int a2), none, none]) (st' := [.int 1]) (h' := h) rfl ?_
      exact mX_reti rfl
    · refine mX_to 1 (k' := 36) (ls' := [some (.int a0), some (.int a1), some (.int a2), none, none]) (st' := [.int 0]) (h' := h) rfl ?_
      exact mX_reti rfl
  refine msw_cons ?_ ?_
  · refine mX_to 2 (k' := 39) (ls' := [some (.int a0), some (.int a1), some (.int a2), none, none]) (st' := [.int a2, .int a1]) (h' := h) rfl ?_
    refine mX_br (t := 42) (f := 40) (ls' := [some (.int a0), some (.int a1), some (.int a2), none, none]) (st' := []) (h' := h) rfl ?_ ?_
    · refine mX_to 1 (k' := 43) (ls' := [some (.int a0), some (.int a1), some (.int a2), none, none]) (st' := [.int 0]) (h' := h) rfl ?_
      exact mX_reti rfl
    · refine mX_to 2 (k' := 43) (ls' := [some (.int a0), some (.int a1), some (.int a2), none, none]) (st' := [.int 1]) (h' := h) rfl ?_
      exact mX_reti rfl
  refine msw_cons ?_ ?_
  · refine mX_to 3 (k' := 47) (ls' := [some (.int a0), some (.int a1), some (.int a2), none, none]) (st' := [.int (a1 ||| a2)]) (h' := h) rfl ?_
    exact mX_reti rfl
  refine msw_cons ?_ ?_
  · refine mX_to 3 (k' := 51) (ls' := [some (.int a0), some (.int a1), some (.int a2), none, none]) (st' := [.int (a1 &&& a2)]) (h' := h) rfl ?_
    exact mX_reti rfl
  refine msw_nil ?_
  refine mX_to 1 (k' := 53) (ls' := [some (.int a0), some (.int a1), some (.int a2), none, none]) (st' := [.int a0]) (h' := h) rfl ?_
  refine mX_sw (x := a0) (t := 75) (sw := [(8, 54), (9, 61), (10, 68)]) (ls' := [some (.int a0), some (.int a1), some (.int a2), none, none]) (st' := []) (h' := h) rfl ?_
  refine msw_cons ?_ ?_
  · refine mX_to 5 (k' := 59) (ls' := [some (.int a0), some (.int a1), some (.int a2), none, none]) (st' := [.long (((a1 : Int32).toInt64) + ((a2 : Int32).toInt64))]) (h' := h) rfl ?_
    refine lt_gen (X := fun v1 : Int64 => mX (mE mtab d) KX3_ofTwo 59 [some (.int a0), some (.int a1), some (.int a2), none, none] [.long v1] h) fun v1 => ?_
    refine mX_to 2 (k' := 84) (ls' := [some (.int a0), some (.int a1), some (.int a2), some (.long v1), none]) (st' := []) (h' := h) rfl ?_
    rfl
  refine msw_cons ?_ ?_
  · refine mX_to 5 (k' := 66) (ls' := [some (.int a0), some (.int a1), some (.int a2), none, none]) (st' := [.long (((a1 : Int32).toInt64) - ((a2 : Int32).toInt64))]) (h' := h) rfl ?_
    refine lt_gen (X := fun v2 : Int64 => mX (mE mtab d) KX3_ofTwo 66 [some (.int a0), some (.int a1), some (.int a2), none, none] [.long v2] h) fun v2 => ?_
    refine mX_to 2 (k' := 84) (ls' := [some (.int a0), some (.int a1), some (.int a2), some (.long v2), none]) (st' := []) (h' := h) rfl ?_
    rfl
  refine msw_cons ?_ ?_
  · refine mX_to 5 (k' := 73) (ls' := [some (.int a0), some (.int a1), some (.int a2), none, none]) (st' := [.long (((a1 : Int32).toInt64) * ((a2 : Int32).toInt64))]) (h' := h) rfl ?_
    refine lt_gen (X := fun v3 : Int64 => mX (mE mtab d) KX3_ofTwo 73 [some (.int a0), some (.int a1), some (.int a2), none, none] [.long v3] h) fun v3 => ?_
    refine mX_to 2 (k' := 84) (ls' := [some (.int a0), some (.int a1), some (.int a2), some (.long v3), none]) (st' := []) (h' := h) rfl ?_
    rfl
  refine msw_nil ?_
  refine mX_to 1 (k' := 76) (ls' := [some (.int a0), some (.int a1), some (.int a2), none, none]) (st' := [.int a2]) (h' := h) rfl ?_
  refine mX_br (t := 77) (f := 79) (ls' := [some (.int a0), some (.int a1), some (.int a2), none, none]) (st' := []) (h' := h) rfl ?_ ?_
  · refine mX_to 2 (k' := 83) (ls' := [some (.int a0), some (.int a1), some (.int a2), none, none]) (st' := [.long 0]) (h' := h) rfl ?_
    rfl
  · refine mX_to 2 (k' := 81) (ls' := [some (.int a0), some (.int a1), some (.int a2), none, none]) (st' := [.int a2, .int a1]) (h' := h) rfl ?_
    refine mX_ck (k' := 82) (ls' := [some (.int a0), some (.int a1), some (.int a2), none, none]) (st' := [.int (a1 / a2)]) (h' := h) rfl ?_
    refine mX_to 1 (k' := 83) (ls' := [some (.int a0), some (.int a1), some (.int a2), none, none]) (st' := [.long (((a1 / a2) : Int32).toInt64)]) (h' := h) rfl ?_
    rfl
theorem S_X3_valueFor_9 {h : MH} (L : lay h) (d : Nat) (q : Nat) (T : tAt q) (l0 : Nat) (l2 : Int32) (l3 : Int32) (l4 : Int32) (l5 : Int32) (o6 : Option Value) (o7 : Option Value) : G_X3_valueFor_9 d q l0 l2 l3 l4 l5 o6 o7 h = ck (kd h l0 = 4) (ck (20 ≤ kd h (gR h l0 0) ∧ ¬ kd h (gR h l0 0) = 25 ∧ kd h (gR h l0 0) ≤ 26) ((if l5 < (nI (ln h (gR h l0 0))) then ck (kd h l0 = 4) (ck (20 ≤ kd h (gR h l0 0) ∧ ¬ kd h (gR h l0 0) = 25 ∧ kd h (gR h l0 0) ≤ 26) ((if l4 < (nI (ln h (gR h l0 0))) then ck (kd h l0 = 4) (ck ((kd h (gR h l0 0) = 20 ∨ kd h (gR h l0 0) = 24) ∧ ib l4 (ln h (gR h l0 0))) (lt_ ((gI h (gR h l0 0) (ix l4)) &&& 31) fun v2 => ck (kd h l0 = 4) (ck ((kd h (gR h l0 0) = 20 ∨ kd h (gR h l0 0) = 24) ∧ ib l4 (ln h (gR h l0 0))) (lt_ ((gI h (gR h l0 0) (ix l4)) >>> (5 &&& 31)) fun v3 => (if v2 = 0 then (if l3 < 64 then ck (kd h l0 = 4) (ck (kd h (gR h l0 1) = 20 ∧ ib l3 (ln h (gR h l0 1))) (lt_ (sI h (gR h l0 1) (ix l3) v3) fun h5 => G_X3_valueFor_160 d q l0 l2 (l3 + 1) (l4 + 1) l5 v2 v3 h5)) else G_X3_valueFor_46 d q l0 l2 l3 (l4 + 1) l5 v2 v3 h) else G_X3_valueFor_46 d q l0 l2 l3 (l4 + 1) l5 v2 v3 h))))) else G_X3_valueFor_162 d q l0 l2 l3 l4 l5 (o6) (o7) h))) else G_X3_valueFor_162 d q l0 l2 l3 l4 l5 (o6) (o7) h))) := by
  refine mX_to 2 (k' := 11) (ls' := [some (.ref l0), some (.ref q), some (.int l2), some (.int l3), some (.int l4), some (.int l5), o6, o7]) (st' := [.ref l0, .int l5]) (h' := h) rfl ?_
  refine mX_ckw (v := .ref (gR h l0 0)) (v' := .ref (gR h l0 0)) (k' := 12) (ls' := [some (.ref l0), some (.ref q), some (.int l2), some (.int l3), some (.int l4), some (.int l5), o6, o7]) (st' := [.int l5]) (h' := h) Iff.rfl rfl rfl fun c14 => ?_
  refine mX_ckw (v := .int (nI (ln h (gR h l0 0)))) (v' := .int (nI (ln h (gR h l0 0)))) (k' := 13) (ls' := [some (.ref l0), some (.ref q), some (.int l2), some (.int l3), some (.int l4), some (.int l5), o6, o7]) (st' := [.int l5]) (h' := h) Iff.rfl rfl rfl fun c13 => ?_
  refine mX_br (t := 14) (f := 162) (ls' := [some (.ref l0), some (.ref q), some (.int l2), some (.int l3), some (.int l4), some (.int l5), o6, o7]) (st' := []) (h' := h) rfl ?_ ?_
  · refine mX_to 2 (k' := 16) (ls' := [some (.ref l0), some (.ref q), some (.int l2), some (.int l3), some (.int l4), some (.int l5), o6, o7]) (st' := [.ref l0, .int l4]) (h' := h) rfl ?_
    refine mX_ckw (v := .ref (gR h l0 0)) (v' := .ref (gR h l0 0)) (k' := 17) (ls' := [some (.ref l0), some (.ref q), some (.int l2), some (.int l3), some (.int l4), some (.int l5), o6, o7]) (st' := [.int l4]) (h' := h) Iff.rfl rfl rfl fun c12 => ?_
    refine mX_ckw (v := .int (nI (ln h (gR h l0 0)))) (v' := .int (nI (ln h (gR h l0 0)))) (k' := 18) (ls' := [some (.ref l0), some (.ref q), some (.int l2), some (.int l3), some (.int l4), some (.int l5), o6, o7]) (st' := [.int l4]) (h' := h) Iff.rfl rfl rfl fun c11 => ?_
    refine mX_br (t := 19) (f := 162) (ls' := [some (.ref l0), some (.ref q), some (.int l2), some (.int l3), some (.int l4), some (.int l5), o6, o7]) (st' := []) (h' := h) rfl ?_ ?_
    · refine mX_to 1 (k' := 20) (ls' := [some (.ref l0), some (.ref q), some (.int l2), some (.int l3), some (.int l4), some (.int l5), o6, o7]) (st' := [.ref l0]) (h' := h) rfl ?_
      refine mX_ckw (v := .ref (gR h l0 0)) (v' := .ref (gR h l0 0)) (k' := 21) (ls' := [some (.ref l0), some (.ref q), some (.int l2), some (.int l3), some (.int l4), some (.int l5), o6, o7]) (st' := []) (h' := h) Iff.rfl rfl rfl fun c10 => ?_
      refine mX_to 1 (k' := 22) (ls' := [some (.ref l0), some (.ref q), some (.int l2), some (.int l3), some (.int l4), some (.int l5), o6, o7]) (st' := [.int l4, .ref (gR h l0 0)]) (h' := h) rfl ?_
      refine mX_ckw (v := .int (gI h (gR h l0 0) (ix l4))) (v' := .int (gI h (gR h l0 0) (ix l4))) (k' := 23) (ls' := [some (.ref l0), some (.ref q), some (.int l2), some (.int l3), some (.int l4), some (.int l5), o6, o7]) (st' := []) (h' := h) Iff.rfl rfl rfl fun c9 => ?_
      refine mX_to 2 (k' := 25) (ls' := [some (.ref l0), some (.ref q), some (.int l2), some (.int l3), some (.int l4), some (.int l5), o6, o7]) (st' := [.int ((gI h (gR h l0 0) (ix l4)) &&& 31)]) (h' := h) rfl ?_
      refine lt_gen (X := fun v2 : Int32 => mX (mE mtab d) KX3_valueFor 25 [some (.ref l0), some (.ref q), some (.int l2), some (.int l3), some (.int l4), some (.int l5), o6, o7] [.int v2] h) fun v2 => ?_
      refine mX_to 2 (k' := 27) (ls' := [some (.ref l0), some (.ref q), some (.int l2), some (.int l3), some (.int l4), some (.int l5), some (.int v2), o7]) (st' := [.ref l0]) (h' := h) rfl ?_
      refine mX_ckw (v := .ref (gR h l0 0)) (v' := .ref (gR h l0 0)) (k' := 28) (ls' := [some (.ref l0), some (.ref q), some (.int l2), some (.int l3), some (.int l4), some (.int l5), some (.int v2), o7]) (st' := []) (h' := h) Iff.rfl rfl rfl fun c8 => ?_
      refine mX_to 1 (k' := 29) (ls' := [some (.ref l0), some (.ref q), some (.int l2), some (.int l3), some (.int l4), some (.int l5), some (.int v2), o7]) (st' := [.int l4, .ref (gR h l0 0)]) (h' := h) rfl ?_
      refine mX_ckw (v := .int (gI h (gR h l0 0) (ix l4))) (v' := .int (gI h (gR h l0 0) (ix l4))) (k' := 30) (ls' := [some (.ref l0), some (.ref q), some (.int l2), some (.int l3), some (.int l4), some (.int l5), some (.int v2), o7]) (st' := []) (h' := h) Iff.rfl rfl rfl fun c7 => ?_
      refine mX_to 2 (k' := 32) (ls' := [some (.ref l0), some (.ref q), some (.int l2), some (.int l3), some (.int l4), some (.int l5), some (.int v2), o7]) (st' := [.int ((gI h (gR h l0 0) (ix l4)) >>> (5 &&& 31))]) (h' := h) rfl ?_
      refine lt_gen (X := fun v3 : Int32 => mX (mE mtab d) KX3_valueFor 32 [some (.ref l0), some (.ref q), some (.int l2), some (.int l3), some (.int l4), some (.int l5), some (.int v2), o7] [.int v3] h) fun v3 => ?_
      refine mX_to 3 (k' := 35) (ls' := [some (.ref l0), some (.ref q), some (.int l2), some (.int l3), some (.int (l4 + 1)), some (.int l5), some (.int v2), some (.int v3)]) (st' := [.int v2]) (h' := h) rfl ?_
      refine mX_br (t := 36) (f := 46) (ls' := [some (.ref l0), some (.ref q), some (.int l2), some (.int l3), some (.int (l4 + 1)), some (.int l5), some (.int v2), some (.int v3)]) (st' := []) (h' := h) rfl ?_ ?_
      · refine mX_to 2 (k' := 38) (ls' := [some (.ref l0), some (.ref q), some (.int l2), some (.int l3), some (.int (l4 + 1)), some (.int l5), some (.int v2), some (.int v3)]) (st' := [.int 64, .int l3]) (h' := h) rfl ?_
        refine mX_br (t := 39) (f := 46) (ls' := [some (.ref l0), some (.ref q), some (.int l2), some (.int l3), some (.int (l4 + 1)), some (.int l5), some (.int v2), some (.int v3)]) (st' := []) (h' := h) rfl ?_ ?_
        · refine mX_to 1 (k' := 40) (ls' := [some (.ref l0), some (.ref q), some (.int l2), some (.int l3), some (.int (l4 + 1)), some (.int l5), some (.int v2), some (.int v3)]) (st' := [.ref l0]) (h' := h) rfl ?_
          refine mX_ckw (v := .ref (gR h l0 1)) (v' := .ref (gR h l0 1)) (k' := 41) (ls' := [some (.ref l0), some (.ref q), some (.int l2), some (.int l3), some (.int (l4 + 1)), some (.int l5), some (.int v2), some (.int v3)]) (st' := []) (h' := h) Iff.rfl rfl rfl fun c6 => ?_
          refine mX_to 2 (k' := 43) (ls' := [some (.ref l0), some (.ref q), some (.int l2), some (.int l3), some (.int (l4 + 1)), some (.int l5), some (.int v2), some (.int v3)]) (st' := [.int v3, .int l3, .ref (gR h l0 1)]) (h' := h) rfl ?_
          refine mX_cki (k' := 44) (ls' := [some (.ref l0), some (.ref q), some (.int l2), some (.int l3), some (.int (l4 + 1)), some (.int l5), some (.int v2), some (.int v3)]) (st' := []) (h' := (sI h (gR h l0 1) (ix l3) v3)) Iff.rfl rfl fun c4 => ?_
          refine lt_geq2 (X := fun h5 : MH => mX (mE mtab d) KX3_valueFor 44 [some (.ref l0), some (.ref q), some (.int l2), some (.int l3), some (.int (l4 + 1)), some (.int l5), some (.int v2), some (.int v3)] [] h5) (a := (sI h (gR h l0 1) (ix l3) v3)) (a' := (sI h (gR h l0 1) (ix l3) v3)) rfl fun h5 eh5 => ?_
          have L5 : lay h5 := eh5 ▸ layI L (lay_ne L (by rw [c4.1]; decide))
          refine mX_to 2 (k' := 160) (ls' := [some (.ref l0), some (.ref q), some (.int l2), some (.int (l3 + 1)), some (.int (l4 + 1)), some (.int l5), some (.int v2), some (.int v3)]) (st' := []) (h' := h5) rfl ?_
          rfl
        · rfl
      · rfl
    · rfl
  · rfl
theorem S_X3_valueFor_160 {h : MH} (L : lay h) (d : Nat) (q : Nat) (T : tAt q) (l0 : Nat) (l2 : Int32) (l3 : Int32) (l4 : Int32) (l5 : Int32) (l6 : Int32) (l7 : Int32) : G_X3_valueFor_160 d q l0 l2 l3 l4 l5 l6 l7 h = G_X3_valueFor_9 d q l0 l2 l3 l4 (l5 + 1) (some (.int l6)) (some (.int l7)) h := by
  refine mX_to 2 (k' := 9) (ls' := [some (.ref l0), some (.ref q), some (.int l2), some (.int l3), some (.int l4), some (.int (l5 + 1)), some (.int l6), some (.int l7)]) (st' := []) (h' := h) rfl ?_
  rfl
theorem S_X3_valueFor_46 {h : MH} (L : lay h) (d : Nat) (q : Nat) (T : tAt q) (l0 : Nat) (l2 : Int32) (l3 : Int32) (l4 : Int32) (l5 : Int32) (l6 : Int32) (l7 : Int32) : G_X3_valueFor_46 d q l0 l2 l3 l4 l5 l6 l7 h = (if l6 = 1 then (if l3 < 64 then (if l7 < 7 then ck (kd h l0 = 4) (ck (ib l7 7) (ck (kd h (gR h l0 1) = 20 ∧ ib l3 (ln h (gR h l0 1))) (lt_ (sI h (gR h l0 1) (ix l3) (gI h (q + 6) (ix l7))) fun h16 => G_X3_valueFor_160 d q l0 l2 (l3 + 1) l4 l5 l6 l7 h16))) else G_X3_valueFor_65 d q l0 l2 l3 l4 l5 l6 l7 h) else G_X3_valueFor_65 d q l0 l2 l3 l4 l5 l6 l7 h) else G_X3_valueFor_65 d q l0 l2 l3 l4 l5 l6 l7 h) := by
  refine mX_to 2 (k' := 48) (ls' := [some (.ref l0), some (.ref q), some (.int l2), some (.int l3), some (.int l4), some (.int l5), some (.int l6), some (.int l7)]) (st' := [.int 1, .int l6]) (h' := h) rfl ?_
  refine mX_br (t := 49) (f := 65) (ls' := [some (.ref l0), some (.ref q), some (.int l2), some (.int l3), some (.int l4), some (.int l5), some (.int l6), some (.int l7)]) (st' := []) (h' := h) rfl ?_ ?_
  · refine mX_to 2 (k' := 51) (ls' := [some (.ref l0), some (.ref q), some (.int l2), some (.int l3), some (.int l4), some (.int l5), some (.int l6), some (.int l7)]) (st' := [.int 64, .int l3]) (h' := h) rfl ?_
    refine mX_br (t := 52) (f := 65) (ls' := [some (.ref l0), some (.ref q), some (.int l2), some (.int l3), some (.int l4), some (.int l5), some (.int l6), some (.int l7)]) (st' := []) (h' := h) rfl ?_ ?_
    · refine mX_to 2 (k' := 54) (ls' := [some (.ref l0), some (.ref q), some (.int l2), some (.int l3), some (.int l4), some (.int l5), some (.int l6), some (.int l7)]) (st' := [.int 7, .int l7]) (h' := h) rfl ?_
      refine mX_br (t := 55) (f := 65) (ls' := [some (.ref l0), some (.ref q), some (.int l2), some (.int l3), some (.int l4), some (.int l5), some (.int l6), some (.int l7)]) (st' := []) (h' := h) rfl ?_ ?_
      · refine mX_to 1 (k' := 56) (ls' := [some (.ref l0), some (.ref q), some (.int l2), some (.int l3), some (.int l4), some (.int l5), some (.int l6), some (.int l7)]) (st' := [.ref l0]) (h' := h) rfl ?_
        refine mX_ckw (v := .ref (gR h l0 1)) (v' := .ref (gR h l0 1)) (k' := 57) (ls' := [some (.ref l0), some (.ref q), some (.int l2), some (.int l3), some (.int l4), some (.int l5), some (.int l6), some (.int l7)]) (st' := []) (h' := h) Iff.rfl rfl rfl fun c18 => ?_
        refine mX_to 2 (k' := 59) (ls' := [some (.ref l0), some (.ref q), some (.int l2), some (.int l3), some (.int l4), some (.int l5), some (.int l6), some (.int l7)]) (st' := [.ref q, .int l3, .ref (gR h l0 1)]) (h' := h) rfl ?_
        refine mX_ckv (v := .ref (gR h q 10)) (v' := .ref (q + 6)) (k' := 60) (ls' := [some (.ref l0), some (.ref q), some (.int l2), some (.int l3), some (.int l4), some (.int l5), some (.int l6), some (.int l7)]) (st' := [.int l3, .ref (gR h l0 1)]) (h' := h) (kT0 L T) (congrArg Value.ref (rT10 L T)) rfl ?_
        refine mX_to 1 (k' := 61) (ls' := [some (.ref l0), some (.ref q), some (.int l2), some (.int l3), some (.int l4), some (.int l5), some (.int l6), some (.int l7)]) (st' := [.int l7, .ref (q + 6), .int l3, .ref (gR h l0 1)]) (h' := h) rfl ?_
        refine mX_ckw (v := .int (gI h (q + 6) (ix l7))) (v' := .int (gI h (q + 6) (ix l7))) (k' := 62) (ls' := [some (.ref l0), some (.ref q), some (.int l2), some (.int l3), some (.int l4), some (.int l5), some (.int l6), some (.int l7)]) (st' := [.int l3, .ref (gR h l0 1)]) (h' := h) (ckA1 (kT6 L T) (nT6 L T)) rfl rfl fun c17 => ?_
        refine mX_cki (k' := 63) (ls' := [some (.ref l0), some (.ref q), some (.int l2), some (.int l3), some (.int l4), some (.int l5), some (.int l6), some (.int l7)]) (st' := []) (h' := (sI h (gR h l0 1) (ix l3) (gI h (q + 6) (ix l7)))) Iff.rfl rfl fun c15 => ?_
        refine lt_geq2 (X := fun h16 : MH => mX (mE mtab d) KX3_valueFor 63 [some (.ref l0), some (.ref q), some (.int l2), some (.int l3), some (.int l4), some (.int l5), some (.int l6), some (.int l7)] [] h16) (a := (sI h (gR h l0 1) (ix l3) (gI h (q + 6) (ix l7)))) (a' := (sI h (gR h l0 1) (ix l3) (gI h (q + 6) (ix l7)))) rfl fun h16 eh16 => ?_
        have L16 : lay h16 := eh16 ▸ layI L (lay_ne L (by rw [c15.1]; decide))
        refine mX_to 2 (k' := 160) (ls' := [some (.ref l0), some (.ref q), some (.int l2), some (.int (l3 + 1)), some (.int l4), some (.int l5), some (.int l6), some (.int l7)]) (st' := []) (h' := h16) rfl ?_
        rfl
      · rfl
    · rfl
  · rfl
theorem S_X3_valueFor_162 {h : MH} (L : lay h) (d : Nat) (q : Nat) (T : tAt q) (l0 : Nat) (l2 : Int32) (l3 : Int32) (l4 : Int32) (l5 : Int32) (o6 : Option Value) (o7 : Option Value) : G_X3_valueFor_162 d q l0 l2 l3 l4 l5 o6 o7 h = (if l3 ≤ 0 then some (.int 0, h) else ck (kd h l0 = 4) (ck ((kd h (gR h l0 1) = 20 ∨ kd h (gR h l0 1) = 24) ∧ ib (l3 - 1) (ln h (gR h l0 1))) (some (.int (gI h (gR h l0 1) (ix (l3 - 1))), h)))) := by
  refine mX_to 1 (k' := 163) (ls' := [some (.ref l0), some (.ref q), some (.int l2), some (.int l3), some (.int l4), some (.int l5), o6, o7]) (st' := [.int l3]) (h' := h) rfl ?_
  refine mX_br (t := 171) (f := 164) (ls' := [some (.ref l0), some (.ref q), some (.int l2), some (.int l3), some (.int l4), some (.int l5), o6, o7]) (st' := []) (h' := h) rfl ?_ ?_
  · refine mX_to 1 (k' := 172) (ls' := [some (.ref l0), some (.ref q), some (.int l2), some (.int l3), some (.int l4), some (.int l5), o6, o7]) (st' := [.int 0]) (h' := h) rfl ?_
    exact mX_reti rfl
  · refine mX_to 1 (k' := 165) (ls' := [some (.ref l0), some (.ref q), some (.int l2), some (.int l3), some (.int l4), some (.int l5), o6, o7]) (st' := [.ref l0]) (h' := h) rfl ?_
    refine mX_ckw (v := .ref (gR h l0 1)) (v' := .ref (gR h l0 1)) (k' := 166) (ls' := [some (.ref l0), some (.ref q), some (.int l2), some (.int l3), some (.int l4), some (.int l5), o6, o7]) (st' := []) (h' := h) Iff.rfl rfl rfl fun c20 => ?_
    refine mX_to 3 (k' := 169) (ls' := [some (.ref l0), some (.ref q), some (.int l2), some (.int l3), some (.int l4), some (.int l5), o6, o7]) (st' := [.int (l3 - 1), .ref (gR h l0 1)]) (h' := h) rfl ?_
    refine mX_ckw (v := .int (gI h (gR h l0 1) (ix (l3 - 1)))) (v' := .int (gI h (gR h l0 1) (ix (l3 - 1)))) (k' := 170) (ls' := [some (.ref l0), some (.ref q), some (.int l2), some (.int l3), some (.int l4), some (.int l5), o6, o7]) (st' := []) (h' := h) Iff.rfl rfl rfl fun c19 => ?_
    refine mX_to 1 (k' := 172) (ls' := [some (.ref l0), some (.ref q), some (.int l2), some (.int l3), some (.int l4), some (.int l5), o6, o7]) (st' := [.int (gI h (gR h l0 1) (ix (l3 - 1)))]) (h' := h) rfl ?_
    exact mX_reti rfl
theorem S_X3_valueFor_65 {h : MH} (L : lay h) (d : Nat) (q : Nat) (T : tAt q) (l0 : Nat) (l2 : Int32) (l3 : Int32) (l4 : Int32) (l5 : Int32) (l6 : Int32) (l7 : Int32) : G_X3_valueFor_65 d q l0 l2 l3 l4 l5 l6 l7 h = (if l6 = 2 then (if l7 ≤ l4 then G_X3_valueFor_74 d q l0 l2 l3 l4 l5 l6 l7 l4 h else G_X3_valueFor_74 d q l0 l2 l3 l4 l5 l6 l7 l7 h) else (if l6 = 3 then (if l3 ≤ 0 then G_X3_valueFor_95 d q l0 l2 l3 l4 l5 l6 l7 h else ck (kd h l0 = 4) (ck ((kd h (gR h l0 1) = 20 ∨ kd h (gR h l0 1) = 24) ∧ ib (l3 + (-1)) (ln h (gR h l0 1))) ((if (gI h (gR h l0 1) (ix (l3 + (-1)))) = 0 then (if l7 ≤ l4 then G_X3_valueFor_92 d q l0 l2 (l3 + (-1)) l4 l5 l6 l7 h else G_X3_valueFor_93 d q l0 l2 (l3 + (-1)) l4 l5 l6 l7 l7 h) else G_X3_valueFor_92 d q l0 l2 (l3 + (-1)) l4 l5 l6 l7 h)))) else G_X3_valueFor_95 d q l0 l2 l3 l4 l5 l6 l7 h)) := by
  refine mX_to 2 (k' := 67) (ls' := [some (.ref l0), some (.ref q), some (.int l2), some (.int l3), some (.int l4), some (.int l5), some (.int l6), some (.int l7)]) (st' := [.int 2, .int l6]) (h' := h) rfl ?_
  refine mX_br (t := 68) (f := 76) (ls' := [some (.ref l0), some (.ref q), some (.int l2), some (.int l3), some (.int l4), some (.int l5), some (.int l6), some (.int l7)]) (st' := []) (h' := h) rfl ?_ ?_
  · refine mX_to 2 (k' := 70) (ls' := [some (.ref l0), some (.ref q), some (.int l2), some (.int l3), some (.int l4), some (.int l5), some (.int l6), some (.int l7)]) (st' := [.int l4, .int l7]) (h' := h) rfl ?_
    refine mX_br (t := 73) (f := 71) (ls' := [some (.ref l0), some (.ref q), some (.int l2), some (.int l3), some (.int l4), some (.int l5), some (.int l6), some (.int l7)]) (st' := []) (h' := h) rfl ?_ ?_
    · refine mX_to 1 (k' := 74) (ls' := [some (.ref l0), some (.ref q), some (.int l2), some (.int l3), some (.int l4), some (.int l5), some (.int l6), some (.int l7)]) (st' := [.int l4]) (h' := h) rfl ?_
      rfl
    · refine mX_to 2 (k' := 74) (ls' := [some (.ref l0), some (.ref q), some (.int l2), some (.int l3), some (.int l4), some (.int l5), some (.int l6), some (.int l7)]) (st' := [.int l7]) (h' := h) rfl ?_
      rfl
  · refine mX_to 2 (k' := 78) (ls' := [some (.ref l0), some (.ref q), some (.int l2), some (.int l3), some (.int l4), some (.int l5), some (.int l6), some (.int l7)]) (st' := [.int 3, .int l6]) (h' := h) rfl ?_
    refine mX_br (t := 79) (f := 95) (ls' := [some (.ref l0), some (.ref q), some (.int l2), some (.int l3), some (.int l4), some (.int l5), some (.int l6), some (.int l7)]) (st' := []) (h' := h) rfl ?_ ?_
    · refine mX_to 1 (k' := 80) (ls' := [some (.ref l0), some (.ref q), some (.int l2), some (.int l3), some (.int l4), some (.int l5), some (.int l6), some (.int l7)]) (st' := [.int l3]) (h' := h) rfl ?_
      refine mX_br (t := 95) (f := 81) (ls' := [some (.ref l0), some (.ref q), some (.int l2), some (.int l3), some (.int l4), some (.int l5), some (.int l6), some (.int l7)]) (st' := []) (h' := h) rfl ?_ ?_
      · rfl
      · refine mX_to 2 (k' := 83) (ls' := [some (.ref l0), some (.ref q), some (.int l2), some (.int (l3 + (-1))), some (.int l4), some (.int l5), some (.int l6), some (.int l7)]) (st' := [.ref l0]) (h' := h) rfl ?_
        refine mX_ckw (v := .ref (gR h l0 1)) (v' := .ref (gR h l0 1)) (k' := 84) (ls' := [some (.ref l0), some (.ref q), some (.int l2), some (.int (l3 + (-1))), some (.int l4), some (.int l5), some (.int l6), some (.int l7)]) (st' := []) (h' := h) Iff.rfl rfl rfl fun c22 => ?_
        refine mX_to 1 (k' := 85) (ls' := [some (.ref l0), some (.ref q), some (.int l2), some (.int (l3 + (-1))), some (.int l4), some (.int l5), some (.int l6), some (.int l7)]) (st' := [.int (l3 + (-1)), .ref (gR h l0 1)]) (h' := h) rfl ?_
        refine mX_ckw (v := .int (gI h (gR h l0 1) (ix (l3 + (-1))))) (v' := .int (gI h (gR h l0 1) (ix (l3 + (-1))))) (k' := 86) (ls' := [some (.ref l0), some (.ref q), some (.int l2), some (.int (l3 + (-1))), some (.int l4), some (.int l5), some (.int l6), some (.int l7)]) (st' := []) (h' := h) Iff.rfl rfl rfl fun c21 => ?_
        refine mX_br (t := 87) (f := 92) (ls' := [some (.ref l0), some (.ref q), some (.int l2), some (.int (l3 + (-1))), some (.int l4), some (.int l5), some (.int l6), some (.int l7)]) (st' := []) (h' := h) rfl ?_ ?_
        · refine mX_to 2 (k' := 89) (ls' := [some (.ref l0), some (.ref q), some (.int l2), some (.int (l3 + (-1))), some (.int l4), some (.int l5), some (.int l6), some (.int l7)]) (st' := [.int l4, .int l7]) (h' := h) rfl ?_
          refine mX_br (t := 92) (f := 90) (ls' := [some (.ref l0), some (.ref q), some (.int l2), some (.int (l3 + (-1))), some (.int l4), some (.int l5), some (.int l6), some (.int l7)]) (st' := []) (h' := h) rfl ?_ ?_
          · rfl
          · refine mX_to 2 (k' := 93) (ls' := [some (.ref l0), some (.ref q), some (.int l2), some (.int (l3 + (-1))), some (.int l4), some (.int l5), some (.int l6), some (.int l7)]) (st' := [.int l7]) (h' := h) rfl ?_
            rfl
        · rfl
    · rfl
theorem S_X3_valueFor_74 {h : MH} (L : lay h) (d : Nat) (q : Nat) (T : tAt q) (l0 : Nat) (l2 : Int32) (l3 : Int32) (l4 : Int32) (l5 : Int32) (l6 : Int32) (l7 : Int32) (s0 : Int32) : G_X3_valueFor_74 d q l0 l2 l3 l4 l5 l6 l7 s0 h = G_X3_valueFor_160 d q l0 l2 l3 s0 l5 l6 l7 h := by
  refine mX_to 2 (k' := 160) (ls' := [some (.ref l0), some (.ref q), some (.int l2), some (.int l3), some (.int s0), some (.int l5), some (.int l6), some (.int l7)]) (st' := []) (h' := h) rfl ?_
  rfl
theorem S_X3_valueFor_95 {h : MH} (L : lay h) (d : Nat) (q : Nat) (T : tAt q) (l0 : Nat) (l2 : Int32) (l3 : Int32) (l4 : Int32) (l5 : Int32) (l6 : Int32) (l7 : Int32) : G_X3_valueFor_95 d q l0 l2 l3 l4 l5 l6 l7 h = (if l6 = 6 then (if l3 ≤ 0 then G_X3_valueFor_115 d q l0 l2 l3 l4 l5 l6 l7 h else ck (kd h l0 = 4) (ck (kd h l0 = 4) (ck ((kd h (gR h l0 1) = 20 ∨ kd h (gR h l0 1) = 24) ∧ ib (l3 - 1) (ln h (gR h l0 1))) (cI (F_X9_weightAt d q (gI h (gR h l0 1) (ix (l3 - 1))) h) (fun x24 h23 => ck (kd h23 (gR h l0 1) = 20 ∧ ib (l3 - 1) (ln h23 (gR h l0 1))) (lt_ (sI h23 (gR h l0 1) (ix (l3 - 1)) x24) fun h26 => G_X3_valueFor_160 d q l0 l2 l3 l4 l5 l6 l7 h26)))))) else G_X3_valueFor_115 d q l0 l2 l3 l4 l5 l6 l7 h) := by
  refine mX_to 2 (k' := 97) (ls' := [some (.ref l0), some (.ref q), some (.int l2), some (.int l3), some (.int l4), some (.int l5), some (.int l6), some (.int l7)]) (st' := [.int 6, .int l6]) (h' := h) rfl ?_
  refine mX_br (t := 98) (f := 115) (ls' := [some (.ref l0), some (.ref q), some (.int l2), some (.int l3), some (.int l4), some (.int l5), some (.int l6), some (.int l7)]) (st' := []) (h' := h) rfl ?_ ?_
  · refine mX_to 1 (k' := 99) (ls' := [some (.ref l0), some (.ref q), some (.int l2), some (.int l3), some (.int l4), some (.int l5), some (.int l6), some (.int l7)]) (st' := [.int l3]) (h' := h) rfl ?_
    refine mX_br (t := 115) (f := 100) (ls' := [some (.ref l0), some (.ref q), some (.int l2), some (.int l3), some (.int l4), some (.int l5), some (.int l6), some (.int l7)]) (st' := []) (h' := h) rfl ?_ ?_
    · rfl
    · refine mX_to 1 (k' := 101) (ls' := [some (.ref l0), some (.ref q), some (.int l2), some (.int l3), some (.int l4), some (.int l5), some (.int l6), some (.int l7)]) (st' := [.ref l0]) (h' := h) rfl ?_
      refine mX_ckw (v := .ref (gR h l0 1)) (v' := .ref (gR h l0 1)) (k' := 102) (ls' := [some (.ref l0), some (.ref q), some (.int l2), some (.int l3), some (.int l4), some (.int l5), some (.int l6), some (.int l7)]) (st' := []) (h' := h) Iff.rfl rfl rfl fun c29 => ?_
      refine mX_to 5 (k' := 107) (ls' := [some (.ref l0), some (.ref q), some (.int l2), some (.int l3), some (.int l4), some (.int l5), some (.int l6), some (.int l7)]) (st' := [.ref l0, .ref q, .int (l3 - 1), .ref (gR h l0 1)]) (h' := h) rfl ?_
      refine mX_ckw (v := .ref (gR h l0 1)) (v' := .ref (gR h l0 1)) (k' := 108) (ls' := [some (.ref l0), some (.ref q), some (.int l2), some (.int l3), some (.int l4), some (.int l5), some (.int l6), some (.int l7)]) (st' := [.ref q, .int (l3 - 1), .ref (gR h l0 1)]) (h' := h) Iff.rfl rfl rfl fun c28 => ?_
      refine mX_to 3 (k' := 111) (ls' := [some (.ref l0), some (.ref q), some (.int l2), some (.int l3), some (.int l4), some (.int l5), some (.int l6), some (.int l7)]) (st' := [.int (l3 - 1), .ref (gR h l0 1), .ref q, .int (l3 - 1), .ref (gR h l0 1)]) (h' := h) rfl ?_
      refine mX_ckw (v := .int (gI h (gR h l0 1) (ix (l3 - 1)))) (v' := .int (gI h (gR h l0 1) (ix (l3 - 1)))) (k' := 112) (ls' := [some (.ref l0), some (.ref q), some (.int l2), some (.int l3), some (.int l4), some (.int l5), some (.int l6), some (.int l7)]) (st' := [.ref q, .int (l3 - 1), .ref (gR h l0 1)]) (h' := h) Iff.rfl rfl rfl fun c27 => ?_
      refine mX_ckct (m := mcl (mE mtab d 141 [.ref q, .int (gI h (gR h l0 1) (ix (l3 - 1)))] h) 1 113 [some (.ref l0), some (.ref q), some (.int l2), some (.int l3), some (.int l4), some (.int l5), some (.int l6), some (.int l7)] [.int (l3 - 1), .ref (gR h l0 1)]) (kT0 L T) rfl ?_
      refine mk_cIe (o := F_X9_weightAt d q (gI h (gR h l0 1) (ix (l3 - 1))) h) ?_
      intro x24 h23 eh23
      have L23 : lay h23 := lay_call d 141 [.ref q, .int (gI h (gR h l0 1) (ix (l3 - 1)))] h _ h23 rfl eh23 L
      refine mX_cki (k' := 114) (ls' := [some (.ref l0), some (.ref q), some (.int l2), some (.int l3), some (.int l4), some (.int l5), some (.int l6), some (.int l7)]) (st' := []) (h' := (sI h23 (gR h l0 1) (ix (l3 - 1)) x24)) Iff.rfl rfl fun c25 => ?_
      refine lt_geq2 (X := fun h26 : MH => mX (mE mtab d) KX3_valueFor 114 [some (.ref l0), some (.ref q), some (.int l2), some (.int l3), some (.int l4), some (.int l5), some (.int l6), some (.int l7)] [] h26) (a := (sI h23 (gR h l0 1) (ix (l3 - 1)) x24)) (a' := (sI h23 (gR h l0 1) (ix (l3 - 1)) x24)) rfl fun h26 eh26 => ?_
      have L26 : lay h26 := eh26 ▸ layI L23 (lay_ne L23 (by rw [c25.1]; decide))
      refine mX_to 1 (k' := 160) (ls' := [some (.ref l0), some (.ref q), some (.int l2), some (.int l3), some (.int l4), some (.int l5), some (.int l6), some (.int l7)]) (st' := []) (h' := h26) rfl ?_
      rfl
  · rfl
theorem S_X3_valueFor_92 {h : MH} (L : lay h) (d : Nat) (q : Nat) (T : tAt q) (l0 : Nat) (l2 : Int32) (l3 : Int32) (l4 : Int32) (l5 : Int32) (l6 : Int32) (l7 : Int32) : G_X3_valueFor_92 d q l0 l2 l3 l4 l5 l6 l7 h = G_X3_valueFor_93 d q l0 l2 l3 l4 l5 l6 l7 l4 h := by
  refine mX_to 1 (k' := 93) (ls' := [some (.ref l0), some (.ref q), some (.int l2), some (.int l3), some (.int l4), some (.int l5), some (.int l6), some (.int l7)]) (st' := [.int l4]) (h' := h) rfl ?_
  rfl
theorem S_X3_valueFor_93 {h : MH} (L : lay h) (d : Nat) (q : Nat) (T : tAt q) (l0 : Nat) (l2 : Int32) (l3 : Int32) (l4 : Int32) (l5 : Int32) (l6 : Int32) (l7 : Int32) (s0 : Int32) : G_X3_valueFor_93 d q l0 l2 l3 l4 l5 l6 l7 s0 h = G_X3_valueFor_160 d q l0 l2 l3 s0 l5 l6 l7 h := by
  refine mX_to 2 (k' := 160) (ls' := [some (.ref l0), some (.ref q), some (.int l2), some (.int l3), some (.int s0), some (.int l5), some (.int l6), some (.int l7)]) (st' := []) (h' := h) rfl ?_
  rfl
theorem S_X3_valueFor_115 {h : MH} (L : lay h) (d : Nat) (q : Nat) (T : tAt q) (l0 : Nat) (l2 : Int32) (l3 : Int32) (l4 : Int32) (l5 : Int32) (l6 : Int32) (l7 : Int32) : G_X3_valueFor_115 d q l0 l2 l3 l4 l5 l6 l7 h = (if l6 < 8 then (if l3 ≤ 0 then G_X3_valueFor_135 d q l0 l2 l3 l4 l5 l6 l7 h else ck (kd h l0 = 4) (ck (kd h l0 = 4) (ck ((kd h (gR h l0 1) = 20 ∨ kd h (gR h l0 1) = 24) ∧ ib (l3 - 1) (ln h (gR h l0 1))) (cI (F_X3_ofOne d l6 (gI h (gR h l0 1) (ix (l3 - 1))) h) (fun x31 h30 => ck (kd h30 (gR h l0 1) = 20 ∧ ib (l3 - 1) (ln h30 (gR h l0 1))) (lt_ (sI h30 (gR h l0 1) (ix (l3 - 1)) x31) fun h33 => G_X3_valueFor_160 d q l0 l2 l3 l4 l5 l6 l7 h33)))))) else G_X3_valueFor_135 d q l0 l2 l3 l4 l5 l6 l7 h) := by
  refine mX_to 2 (k' := 117) (ls' := [some (.ref l0), some (.ref q), some (.int l2), some (.int l3), some (.int l4), some (.int l5), some (.int l6), some (.int l7)]) (st' := [.int 8, .int l6]) (h' := h) rfl ?_
  refine mX_br (t := 118) (f := 135) (ls' := [some (.ref l0), some (.ref q), some (.int l2), some (.int l3), some (.int l4), some (.int l5), some (.int l6), some (.int l7)]) (st' := []) (h' := h) rfl ?_ ?_
  · refine mX_to 1 (k' := 119) (ls' := [some (.ref l0), some (.ref q), some (.int l2), some (.int l3), some (.int l4), some (.int l5), some (.int l6), some (.int l7)]) (st' := [.int l3]) (h' := h) rfl ?_
    refine mX_br (t := 135) (f := 120) (ls' := [some (.ref l0), some (.ref q), some (.int l2), some (.int l3), some (.int l4), some (.int l5), some (.int l6), some (.int l7)]) (st' := []) (h' := h) rfl ?_ ?_
    · rfl
    · refine mX_to 1 (k' := 121) (ls' := [some (.ref l0), some (.ref q), some (.int l2), some (.int l3), some (.int l4), some (.int l5), some (.int l6), some (.int l7)]) (st' := [.ref l0]) (h' := h) rfl ?_
      refine mX_ckw (v := .ref (gR h l0 1)) (v' := .ref (gR h l0 1)) (k' := 122) (ls' := [some (.ref l0), some (.ref q), some (.int l2), some (.int l3), some (.int l4), some (.int l5), some (.int l6), some (.int l7)]) (st' := []) (h' := h) Iff.rfl rfl rfl fun c36 => ?_
      refine mX_to 5 (k' := 127) (ls' := [some (.ref l0), some (.ref q), some (.int l2), some (.int l3), some (.int l4), some (.int l5), some (.int l6), some (.int l7)]) (st' := [.ref l0, .int l6, .int (l3 - 1), .ref (gR h l0 1)]) (h' := h) rfl ?_
      refine mX_ckw (v := .ref (gR h l0 1)) (v' := .ref (gR h l0 1)) (k' := 128) (ls' := [some (.ref l0), some (.ref q), some (.int l2), some (.int l3), some (.int l4), some (.int l5), some (.int l6), some (.int l7)]) (st' := [.int l6, .int (l3 - 1), .ref (gR h l0 1)]) (h' := h) Iff.rfl rfl rfl fun c35 => ?_
      refine mX_to 3 (k' := 131) (ls' := [some (.ref l0), some (.ref q), some (.int l2), some (.int l3), some (.int l4), some (.int l5), some (.int l6), some (.int l7)]) (st' := [.int (l3 - 1), .ref (gR h l0 1), .int l6, .int (l3 - 1), .ref (gR h l0 1)]) (h' := h) rfl ?_
      refine mX_ckw (v := .int (gI h (gR h l0 1) (ix (l3 - 1)))) (v' := .int (gI h (gR h l0 1) (ix (l3 - 1)))) (k' := 132) (ls' := [some (.ref l0), some (.ref q), some (.int l2), some (.int l3), some (.int l4), some (.int l5), some (.int l6), some (.int l7)]) (st' := [.int l6, .int (l3 - 1), .ref (gR h l0 1)]) (h' := h) Iff.rfl rfl rfl fun c34 => ?_
      refine mX_cIe (o := F_X3_ofOne d l6 (gI h (gR h l0 1) (ix (l3 - 1))) h) (k' := 133) (ls' := [some (.ref l0), some (.ref q), some (.int l2), some (.int l3), some (.int l4), some (.int l5), some (.int l6), some (.int l7)]) (st' := [.int (l3 - 1), .ref (gR h l0 1)]) rfl ?_
      intro x31 h30 eh30
      have L30 : lay h30 := lay_call d 142 [.int l6, .int (gI h (gR h l0 1) (ix (l3 - 1)))] h _ h30 rfl eh30 L
      refine mX_cki (k' := 134) (ls' := [some (.ref l0), some (.ref q), some (.int l2), some (.int l3), some (.int l4), some (.int l5), some (.int l6), some (.int l7)]) (st' := []) (h' := (sI h30 (gR h l0 1) (ix (l3 - 1)) x31)) Iff.rfl rfl fun c32 => ?_
      refine lt_geq2 (X := fun h33 : MH => mX (mE mtab d) KX3_valueFor 134 [some (.ref l0), some (.ref q), some (.int l2), some (.int l3), some (.int l4), some (.int l5), some (.int l6), some (.int l7)] [] h33) (a := (sI h30 (gR h l0 1) (ix (l3 - 1)) x31)) (a' := (sI h30 (gR h l0 1) (ix (l3 - 1)) x31)) rfl fun h33 eh33 => ?_
      have L33 : lay h33 := eh33 ▸ layI L30 (lay_ne L30 (by rw [c32.1]; decide))
      refine mX_to 1 (k' := 160) (ls' := [some (.ref l0), some (.ref q), some (.int l2), some (.int l3), some (.int l4), some (.int l5), some (.int l6), some (.int l7)]) (st' := []) (h' := h33) rfl ?_
      rfl
  · rfl
theorem S_X3_valueFor_135 {h : MH} (L : lay h) (d : Nat) (q : Nat) (T : tAt q) (l0 : Nat) (l2 : Int32) (l3 : Int32) (l4 : Int32) (l5 : Int32) (l6 : Int32) (l7 : Int32) : G_X3_valueFor_135 d q l0 l2 l3 l4 l5 l6 l7 h = (if l6 < 8 then G_X3_valueFor_160 d q l0 l2 l3 l4 l5 l6 l7 h else (if l3 ≤ 1 then G_X3_valueFor_160 d q l0 l2 l3 l4 l5 l6 l7 h else ck (kd h l0 = 4) (ck (kd h l0 = 4) (ck ((kd h (gR h l0 1) = 20 ∨ kd h (gR h l0 1) = 24) ∧ ib ((l3 + (-1)) - 1) (ln h (gR h l0 1))) (ck (kd h l0 = 4) (ck ((kd h (gR h l0 1) = 20 ∨ kd h (gR h l0 1) = 24) ∧ ib (l3 + (-1)) (ln h (gR h l0 1))) (cI (F_X3_ofTwo d l6 (gI h (gR h l0 1) (ix ((l3 + (-1)) - 1))) (gI h (gR h l0 1) (ix (l3 + (-1)))) h) (fun x38 h37 => ck (kd h37 (gR h l0 1) = 20 ∧ ib ((l3 + (-1)) - 1) (ln h37 (gR h l0 1))) (lt_ (sI h37 (gR h l0 1) (ix ((l3 + (-1)) - 1)) x38) fun h40 => G_X3_valueFor_160 d q l0 l2 (l3 + (-1)) l4 l5 l6 l7 h40))))))))) := by
  refine mX_to 2 (k' := 137) (ls' := [some (.ref l0), some (.ref q), some (.int l2), some (.int l3), some (.int l4), some (.int l5), some (.int l6), some (.int l7)]) (st' := [.int 8, .int l6]) (h' := h) rfl ?_
  refine mX_br (t := 160) (f := 138) (ls' := [some (.ref l0), some (.ref q), some (.int l2), some (.int l3), some (.int l4), some (.int l5), some (.int l6), some (.int l7)]) (st' := []) (h' := h) rfl ?_ ?_
  · rfl
  · refine mX_to 2 (k' := 140) (ls' := [some (.ref l0), some (.ref q), some (.int l2), some (.int l3), some (.int l4), some (.int l5), some (.int l6), some (.int l7)]) (st' := [.int 1, .int l3]) (h' := h) rfl ?_
    refine mX_br (t := 160) (f := 141) (ls' := [some (.ref l0), some (.ref q), some (.int l2), some (.int l3), some (.int l4), some (.int l5), some (.int l6), some (.int l7)]) (st' := []) (h' := h) rfl ?_ ?_
    · rfl
    · refine mX_to 2 (k' := 143) (ls' := [some (.ref l0), some (.ref q), some (.int l2), some (.int (l3 + (-1))), some (.int l4), some (.int l5), some (.int l6), some (.int l7)]) (st' := [.ref l0]) (h' := h) rfl ?_
      refine mX_ckw (v := .ref (gR h l0 1)) (v' := .ref (gR h l0 1)) (k' := 144) (ls' := [some (.ref l0), some (.ref q), some (.int l2), some (.int (l3 + (-1))), some (.int l4), some (.int l5), some (.int l6), some (.int l7)]) (st' := []) (h' := h) Iff.rfl rfl rfl fun c45 => ?_
      refine mX_to 5 (k' := 149) (ls' := [some (.ref l0), some (.ref q), some (.int l2), some (.int (l3 + (-1))), some (.int l4), some (.int l5), some (.int l6), some (.int l7)]) (st' := [.ref l0, .int l6, .int ((l3 + (-1)) - 1), .ref (gR h l0 1)]) (h' := h) rfl ?_
      refine mX_ckw (v := .ref (gR h l0 1)) (v' := .ref (gR h l0 1)) (k' := 150) (ls' := [some (.ref l0), some (.ref q), some (.int l2), some (.int (l3 + (-1))), some (.int l4), some (.int l5), some (.int l6), some (.int l7)]) (st' := [.int l6, .int ((l3 + (-1)) - 1), .ref (gR h l0 1)]) (h' := h) Iff.rfl rfl rfl fun c44 => ?_
      refine mX_to 3 (k' := 153) (ls' := [some (.ref l0), some (.ref q), some (.int l2), some (.int (l3 + (-1))), some (.int l4), some (.int l5), some (.int l6), some (.int l7)]) (st' := [.int ((l3 + (-1)) - 1), .ref (gR h l0 1), .int l6, .int ((l3 + (-1)) - 1), .ref (gR h l0 1)]) (h' := h) rfl ?_
      refine mX_ckw (v := .int (gI h (gR h l0 1) (ix ((l3 + (-1)) - 1)))) (v' := .int (gI h (gR h l0 1) (ix ((l3 + (-1)) - 1)))) (k' := 154) (ls' := [some (.ref l0), some (.ref q), some (.int l2), some (.int (l3 + (-1))), some (.int l4), some (.int l5), some (.int l6), some (.int l7)]) (st' := [.int l6, .int ((l3 + (-1)) - 1), .ref (gR h l0 1)]) (h' := h) Iff.rfl rfl rfl fun c43 => ?_
      refine mX_to 1 (k' := 155) (ls' := [some (.ref l0), some (.ref q), some (.int l2), some (.int (l3 + (-1))), some (.int l4), some (.int l5), some (.int l6), some (.int l7)]) (st' := [.ref l0, .int (gI h (gR h l0 1) (ix ((l3 + (-1)) - 1))), .int l6, .int ((l3 + (-1)) - 1), .ref (gR h l0 1)]) (h' := h) rfl ?_
      refine mX_ckw (v := .ref (gR h l0 1)) (v' := .ref (gR h l0 1)) (k' := 156) (ls' := [some (.ref l0), some (.ref q), some (.int l2), some (.int (l3 + (-1))), some (.int l4), some (.int l5), some (.int l6), some (.int l7)]) (st' := [.int (gI h (gR h l0 1) (ix ((l3 + (-1)) - 1))), .int l6, .int ((l3 + (-1)) - 1), .ref (gR h l0 1)]) (h' := h) Iff.rfl rfl rfl fun c42 => ?_
      refine mX_to 1 (k' := 157) (ls' := [some (.ref l0), some (.ref q), some (.int l2), some (.int (l3 + (-1))), some (.int l4), some (.int l5), some (.int l6), some (.int l7)]) (st' := [.int (l3 + (-1)), .ref (gR h l0 1), .int (gI h (gR h l0 1) (ix ((l3 + (-1)) - 1))), .int l6, .int ((l3 + (-1)) - 1), .ref (gR h l0 1)]) (h' := h) rfl ?_
      refine mX_ckw (v := .int (gI h (gR h l0 1) (ix (l3 + (-1))))) (v' := .int (gI h (gR h l0 1) (ix (l3 + (-1))))) (k' := 158) (ls' := [some (.ref l0), some (.ref q), some (.int l2), some (.int (l3 + (-1))), some (.int l4), some (.int l5), some (.int l6), some (.int l7)]) (st' := [.int (gI h (gR h l0 1) (ix ((l3 + (-1)) - 1))), .int l6, .int ((l3 + (-1)) - 1), .ref (gR h l0 1)]) (h' := h) Iff.rfl rfl rfl fun c41 => ?_
      refine mX_cIe (o := F_X3_ofTwo d l6 (gI h (gR h l0 1) (ix ((l3 + (-1)) - 1))) (gI h (gR h l0 1) (ix (l3 + (-1)))) h) (k' := 159) (ls' := [some (.ref l0), some (.ref q), some (.int l2), some (.int (l3 + (-1))), some (.int l4), some (.int l5), some (.int l6), some (.int l7)]) (st' := [.int ((l3 + (-1)) - 1), .ref (gR h l0 1)]) rfl ?_
      intro x38 h37 eh37
      have L37 : lay h37 := lay_call d 143 [.int l6, .int (gI h (gR h l0 1) (ix ((l3 + (-1)) - 1))), .int (gI h (gR h l0 1) (ix (l3 + (-1))))] h _ h37 rfl eh37 L
      refine mX_cki (k' := 160) (ls' := [some (.ref l0), some (.ref q), some (.int l2), some (.int (l3 + (-1))), some (.int l4), some (.int l5), some (.int l6), some (.int l7)]) (st' := []) (h' := (sI h37 (gR h l0 1) (ix ((l3 + (-1)) - 1)) x38)) Iff.rfl rfl fun c39 => ?_
      refine lt_geq2 (X := fun h40 : MH => mX (mE mtab d) KX3_valueFor 160 [some (.ref l0), some (.ref q), some (.int l2), some (.int (l3 + (-1))), some (.int l4), some (.int l5), some (.int l6), some (.int l7)] [] h40) (a := (sI h37 (gR h l0 1) (ix ((l3 + (-1)) - 1)) x38)) (a' := (sI h37 (gR h l0 1) (ix ((l3 + (-1)) - 1)) x38)) rfl fun h40 eh40 => ?_
      have L40 : lay h40 := eh40 ▸ layI L37 (lay_ne L37 (by rw [c39.1]; decide))
      rfl
theorem S_X3_valueFor {h : MH} (L : lay h) (d : Nat) (a0 : Nat) (q : Nat) (a2 : Int32) (T : tAt q) : F_X3_valueFor (d + 1) a0 q a2 h = cV (F_X9_tellNames d q a2 h) (fun h1 => G_X3_valueFor_9 d q a0 a2 0 0 0 none none h1) := by
  refine mE_eq (q := (yX3_valueFor, cX3_valueFor, 8, (some .int), KX3_valueFor)) (C := KX3_valueFor) (ls := [some (.ref a0), some (.ref q), some (.int a2), none, none, none, none, none]) rfl rfl rfl rfl ?_
  refine mX_to 2 (k' := 2) (ls' := [some (.ref a0), some (.ref q), some (.int a2), none, none, none, none, none]) (st' := [.int a2, .ref q]) (h' := h) rfl ?_
  refine mX_ckct (m := mcl (mE mtab d 140 [.ref q, .int a2] h) 0 3 [some (.ref a0), some (.ref q), some (.int a2), none, none, none, none, none] []) (kT0 L T) rfl ?_
  refine mk_cVe (o := F_X9_tellNames d q a2 h) ?_
  intro wh1 h1 eh1
  have L1 : lay h1 := lay_call d 140 [.ref q, .int a2] h _ h1 rfl eh1 L
  refine mX_to 6 (k' := 9) (ls' := [some (.ref a0), some (.ref q), some (.int a2), some (.int 0), some (.int 0), some (.int 0), none, none]) (st' := []) (h' := h1) rfl ?_
  rfl
