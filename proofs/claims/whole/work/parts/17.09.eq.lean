/-! EQUATIONS OF THE METHODS (written by wip/gen/dgen.py) -/
theorem D_X3_valueFor_9 (d : Nat) (h : MH) (l0 : Nat) (l1 : Nat) (l2 : Int32) (l3 : Int32) (l4 : Int32) (l5 : Int32) (o6 : Option Value) (o7 : Option Value) : mX (mE mtab d) KX3_valueFor 9 [some (.ref l0), some (.ref l1), some (.int l2), some (.int l3), some (.int l4), some (.int l5), o6, o7] [] h = ck (kd h l0 = 4) (ck (20 ≤ kd h (gR h l0 0) ∧ ¬ kd h (gR h l0 0) = 25 ∧ kd h (gR h l0 0) ≤ 26) ((if l5 < (nI (ln h (gR h l0 0))) then ck (kd h l0 = 4) (ck (20 ≤ kd h (gR h l0 0) ∧ ¬ kd h (gR h l0 0) = 25 ∧ kd h (gR h l0 0) ≤ 26) ((if l4 < (nI (ln h (gR h l0 0))) then ck (kd h l0 = 4) (ck ((kd h (gR h l0 0) = 20 ∨ kd h (gR h l0 0) = 24) ∧ ib l4 (ln h (gR h l0 0))) (lt_ ((gI h (gR h l0 0) (ix l4)) &&& 31) fun v2 => ck (kd h l0 = 4) (ck ((kd h (gR h l0 0) = 20 ∨ kd h (gR h l0 0) = 24) ∧ ib l4 (ln h (gR h l0 0))) (lt_ ((gI h (gR h l0 0) (ix l4)) >>> (5 &&& 31)) fun v3 => (if v2 = 0 then (if l3 < 64 then ck (kd h l0 = 4) (ck (kd h (gR h l0 1) = 20 ∧ ib l3 (ln h (gR h l0 1))) (lt_ (sI h (gR h l0 1) (ix l3) v3) fun h5 => mX (mE mtab d) KX3_valueFor 160 [some (.ref l0), some (.ref l1), some (.int l2), some (.int (l3 + 1)), some (.int (l4 + 1)), some (.int l5), some (.int v2), some (.int v3)] [] h5)) else mX (mE mtab d) KX3_valueFor 46 [some (.ref l0), some (.ref l1), some (.int l2), some (.int l3), some (.int (l4 + 1)), some (.int l5), some (.int v2), some (.int v3)] [] h) else mX (mE mtab d) KX3_valueFor 46 [some (.ref l0), some (.ref l1), some (.int l2), some (.int l3), some (.int (l4 + 1)), some (.int l5), some (.int v2), some (.int v3)] [] h))))) else mX (mE mtab d) KX3_valueFor 162 [some (.ref l0), some (.ref l1), some (.int l2), some (.int l3), some (.int l4), some (.int l5), o6, o7] [] h))) else mX (mE mtab d) KX3_valueFor 162 [some (.ref l0), some (.ref l1), some (.int l2), some (.int l3), some (.int l4), some (.int l5), o6, o7] [] h))) := by
  refine mX_to 2 (k' := 11) (ls' := [some (.ref l0), some (.ref l1), some (.int l2), some (.int l3), some (.int l4), some (.int l5), o6, o7]) (st' := [.ref l0, .int l5]) (h' := h) rfl ?_
  refine mX_ck (k' := 12) (ls' := [some (.ref l0), some (.ref l1), some (.int l2), some (.int l3), some (.int l4), some (.int l5), o6, o7]) (st' := [.ref (gR h l0 0), .int l5]) (h' := h) rfl ?_
  refine mX_ck (k' := 13) (ls' := [some (.ref l0), some (.ref l1), some (.int l2), some (.int l3), some (.int l4), some (.int l5), o6, o7]) (st' := [.int (nI (ln h (gR h l0 0))), .int l5]) (h' := h) rfl ?_
  refine mX_br (t := 14) (f := 162) (ls' := [some (.ref l0), some (.ref l1), some (.int l2), some (.int l3), some (.int l4), some (.int l5), o6, o7]) (st' := []) (h' := h) rfl ?_ ?_
  · refine mX_to 2 (k' := 16) (ls' := [some (.ref l0), some (.ref l1), some (.int l2), some (.int l3), some (.int l4), some (.int l5), o6, o7]) (st' := [.ref l0, .int l4]) (h' := h) rfl ?_
    refine mX_ck (k' := 17) (ls' := [some (.ref l0), some (.ref l1), some (.int l2), some (.int l3), some (.int l4), some (.int l5), o6, o7]) (st' := [.ref (gR h l0 0), .int l4]) (h' := h) rfl ?_
    refine mX_ck (k' := 18) (ls' := [some (.ref l0), some (.ref l1), some (.int l2), some (.int l3), some (.int l4), some (.int l5), o6, o7]) (st' := [.int (nI (ln h (gR h l0 0))), .int l4]) (h' := h) rfl ?_
    refine mX_br (t := 19) (f := 162) (ls' := [some (.ref l0), some (.ref l1), some (.int l2), some (.int l3), some (.int l4), some (.int l5), o6, o7]) (st' := []) (h' := h) rfl ?_ ?_
    · refine mX_to 1 (k' := 20) (ls' := [some (.ref l0), some (.ref l1), some (.int l2), some (.int l3), some (.int l4), some (.int l5), o6, o7]) (st' := [.ref l0]) (h' := h) rfl ?_
      refine mX_ck (k' := 21) (ls' := [some (.ref l0), some (.ref l1), some (.int l2), some (.int l3), some (.int l4), some (.int l5), o6, o7]) (st' := [.ref (gR h l0 0)]) (h' := h) rfl ?_
      refine mX_to 1 (k' := 22) (ls' := [some (.ref l0), some (.ref l1), some (.int l2), some (.int l3), some (.int l4), some (.int l5), o6, o7]) (st' := [.int l4, .ref (gR h l0 0)]) (h' := h) rfl ?_
      refine mX_ck (k' := 23) (ls' := [some (.ref l0), some (.ref l1), some (.int l2), some (.int l3), some (.int l4), some (.int l5), o6, o7]) (st' := [.int (gI h (gR h l0 0) (ix l4))]) (h' := h) rfl ?_
      refine mX_to 2 (k' := 25) (ls' := [some (.ref l0), some (.ref l1), some (.int l2), some (.int l3), some (.int l4), some (.int l5), o6, o7]) (st' := [.int ((gI h (gR h l0 0) (ix l4)) &&& 31)]) (h' := h) rfl ?_
      refine lt_gen (X := fun v2 : Int32 => mX (mE mtab d) KX3_valueFor 25 [some (.ref l0), some (.ref l1), some (.int l2), some (.int l3), some (.int l4), some (.int l5), o6, o7] [.int v2] h) fun v2 => ?_
      refine mX_to 2 (k' := 27) (ls' := [some (.ref l0), some (.ref l1), some (.int l2), some (.int l3), some (.int l4), some (.int l5), some (.int v2), o7]) (st' := [.ref l0]) (h' := h) rfl ?_
      refine mX_ck (k' := 28) (ls' := [some (.ref l0), some (.ref l1), some (.int l2), some (.int l3), some (.int l4), some (.int l5), some (.int v2), o7]) (st' := [.ref (gR h l0 0)]) (h' := h) rfl ?_
      refine mX_to 1 (k' := 29) (ls' := [some (.ref l0), some (.ref l1), some (.int l2), some (.int l3), some (.int l4), some (.int l5), some (.int v2), o7]) (st' := [.int l4, .ref (gR h l0 0)]) (h' := h) rfl ?_
      refine mX_ck (k' := 30) (ls' := [some (.ref l0), some (.ref l1), some (.int l2), some (.int l3), some (.int l4), some (.int l5), some (.int v2), o7]) (st' := [.int (gI h (gR h l0 0) (ix l4))]) (h' := h) rfl ?_
      refine mX_to 2 (k' := 32) (ls' := [some (.ref l0), some (.ref l1), some (.int l2), some (.int l3), some (.int l4), some (.int l5), some (.int v2), o7]) (st' := [.int ((gI h (gR h l0 0) (ix l4)) >>> (5 &&& 31))]) (h' := h) rfl ?_
      refine lt_gen (X := fun v3 : Int32 => mX (mE mtab d) KX3_valueFor 32 [some (.ref l0), some (.ref l1), some (.int l2), some (.int l3), some (.int l4), some (.int l5), some (.int v2), o7] [.int v3] h) fun v3 => ?_
      refine mX_to 3 (k' := 35) (ls' := [some (.ref l0), some (.ref l1), some (.int l2), some (.int l3), some (.int (l4 + 1)), some (.int l5), some (.int v2), some (.int v3)]) (st' := [.int v2]) (h' := h) rfl ?_
      refine mX_br (t := 36) (f := 46) (ls' := [some (.ref l0), some (.ref l1), some (.int l2), some (.int l3), some (.int (l4 + 1)), some (.int l5), some (.int v2), some (.int v3)]) (st' := []) (h' := h) rfl ?_ ?_
      · refine mX_to 2 (k' := 38) (ls' := [some (.ref l0), some (.ref l1), some (.int l2), some (.int l3), some (.int (l4 + 1)), some (.int l5), some (.int v2), some (.int v3)]) (st' := [.int 64, .int l3]) (h' := h) rfl ?_
        refine mX_br (t := 39) (f := 46) (ls' := [some (.ref l0), some (.ref l1), some (.int l2), some (.int l3), some (.int (l4 + 1)), some (.int l5), some (.int v2), some (.int v3)]) (st' := []) (h' := h) rfl ?_ ?_
        · refine mX_to 1 (k' := 40) (ls' := [some (.ref l0), some (.ref l1), some (.int l2), some (.int l3), some (.int (l4 + 1)), some (.int l5), some (.int v2), some (.int v3)]) (st' := [.ref l0]) (h' := h) rfl ?_
          refine mX_ck (k' := 41) (ls' := [some (.ref l0), some (.ref l1), some (.int l2), some (.int l3), some (.int (l4 + 1)), some (.int l5), some (.int v2), some (.int v3)]) (st' := [.ref (gR h l0 1)]) (h' := h) rfl ?_
          refine mX_to 2 (k' := 43) (ls' := [some (.ref l0), some (.ref l1), some (.int l2), some (.int l3), some (.int (l4 + 1)), some (.int l5), some (.int v2), some (.int v3)]) (st' := [.int v3, .int l3, .ref (gR h l0 1)]) (h' := h) rfl ?_
          refine mX_ck (k' := 44) (ls' := [some (.ref l0), some (.ref l1), some (.int l2), some (.int l3), some (.int (l4 + 1)), some (.int l5), some (.int v2), some (.int v3)]) (st' := []) (h' := (sI h (gR h l0 1) (ix l3) v3)) rfl ?_
          refine lt_gen (X := fun h5 : MH => mX (mE mtab d) KX3_valueFor 44 [some (.ref l0), some (.ref l1), some (.int l2), some (.int l3), some (.int (l4 + 1)), some (.int l5), some (.int v2), some (.int v3)] [] h5) fun h5 => ?_
          refine mX_to 2 (k' := 160) (ls' := [some (.ref l0), some (.ref l1), some (.int l2), some (.int (l3 + 1)), some (.int (l4 + 1)), some (.int l5), some (.int v2), some (.int v3)]) (st' := []) (h' := h5) rfl ?_
          rfl
        · rfl
      · rfl
    · rfl
  · rfl
theorem D_X3_valueFor_160 (d : Nat) (h : MH) (l0 : Nat) (l1 : Nat) (l2 : Int32) (l3 : Int32) (l4 : Int32) (l5 : Int32) (l6 : Int32) (l7 : Int32) : mX (mE mtab d) KX3_valueFor 160 [some (.ref l0), some (.ref l1), some (.int l2), some (.int l3), some (.int l4), some (.int l5), some (.int l6), some (.int l7)] [] h = mX (mE mtab d) KX3_valueFor 9 [some (.ref l0), some (.ref l1), some (.int l2), some (.int l3), some (.int l4), some (.int (l5 + 1)), some (.int l6), some (.int l7)] [] h := by
  refine mX_to 2 (k' := 9) (ls' := [some (.ref l0), some (.ref l1), some (.int l2), some (.int l3), some (.int l4), some (.int (l5 + 1)), some (.int l6), some (.int l7)]) (st' := []) (h' := h) rfl ?_
  rfl
theorem D_X3_valueFor_46 (d : Nat) (h : MH) (l0 : Nat) (l1 : Nat) (l2 : Int32) (l3 : Int32) (l4 : Int32) (l5 : Int32) (l6 : Int32) (l7 : Int32) : mX (mE mtab d) KX3_valueFor 46 [some (.ref l0), some (.ref l1), some (.int l2), some (.int l3), some (.int l4), some (.int l5), some (.int l6), some (.int l7)] [] h = (if l6 = 1 then (if l3 < 64 then (if l7 < 7 then ck (kd h l0 = 4) (ck (kd h l1 = 10) (ck ((kd h (gR h l1 10) = 20 ∨ kd h (gR h l1 10) = 24) ∧ ib l7 (ln h (gR h l1 10))) (ck (kd h (gR h l0 1) = 20 ∧ ib l3 (ln h (gR h l0 1))) (lt_ (sI h (gR h l0 1) (ix l3) (gI h (gR h l1 10) (ix l7))) fun h8 => mX (mE mtab d) KX3_valueFor 160 [some (.ref l0), some (.ref l1), some (.int l2), some (.int (l3 + 1)), some (.int l4), some (.int l5), some (.int l6), some (.int l7)] [] h8)))) else mX (mE mtab d) KX3_valueFor 65 [some (.ref l0), some (.ref l1), some (.int l2), some (.int l3), some (.int l4), some (.int l5), some (.int l6), some (.int l7)] [] h) else mX (mE mtab d) KX3_valueFor 65 [some (.ref l0), some (.ref l1), some (.int l2), some (.int l3), some (.int l4), some (.int l5), some (.int l6), some (.int l7)] [] h) else mX (mE mtab d) KX3_valueFor 65 [some (.ref l0), some (.ref l1), some (.int l2), some (.int l3), some (.int l4), some (.int l5), some (.int l6), some (.int l7)] [] h) := by
  refine mX_to 2 (k' := 48) (ls' := [some (.ref l0), some (.ref l1), some (.int l2), some (.int l3), some (.int l4), some (.int l5), some (.int l6), some (.int l7)]) (st' := [.int 1, .int l6]) (h' := h) rfl ?_
  refine mX_br (t := 49) (f := 65) (ls' := [some (.ref l0), some (.ref l1), some (.int l2), some (.int l3), some (.int l4), some (.int l5), some (.int l6), some (.int l7)]) (st' := []) (h' := h) rfl ?_ ?_
  · refine mX_to 2 (k' := 51) (ls' := [some (.ref l0), some (.ref l1), some (.int l2), some (.int l3), some (.int l4), some (.int l5), some (.int l6), some (.int l7)]) (st' := [.int 64, .int l3]) (h' := h) rfl ?_
    refine mX_br (t := 52) (f := 65) (ls' := [some (.ref l0), some (.ref l1), some (.int l2), some (.int l3), some (.int l4), some (.int l5), some (.int l6), some (.int l7)]) (st' := []) (h' := h) rfl ?_ ?_
    · refine mX_to 2 (k' := 54) (ls' := [some (.ref l0), some (.ref l1), some (.int l2), some (.int l3), some (.int l4), some (.int l5), some (.int l6), some (.int l7)]) (st' := [.int 7, .int l7]) (h' := h) rfl ?_
      refine mX_br (t := 55) (f := 65) (ls' := [some (.ref l0), some (.ref l1), some (.int l2), some (.int l3), some (.int l4), some (.int l5), some (.int l6), some (.int l7)]) (st' := []) (h' := h) rfl ?_ ?_
      · refine mX_to 1 (k' := 56) (ls' := [some (.ref l0), some (.ref l1), some (.int l2), some (.int l3), some (.int l4), some (.int l5), some (.int l6), some (.int l7)]) (st' := [.ref l0]) (h' := h) rfl ?_
        refine mX_ck (k' := 57) (ls' := [some (.ref l0), some (.ref l1), some (.int l2), some (.int l3), some (.int l4), some (.int l5), some (.int l6), some (.int l7)]) (st' := [.ref (gR h l0 1)]) (h' := h) rfl ?_
        refine mX_to 2 (k' := 59) (ls' := [some (.ref l0), some (.ref l1), some (.int l2), some (.int l3), some (.int l4), some (.int l5), some (.int l6), some (.int l7)]) (st' := [.ref l1, .int l3, .ref (gR h l0 1)]) (h' := h) rfl ?_
        refine mX_ck (k' := 60) (ls' := [some (.ref l0), some (.ref l1), some (.int l2), some (.int l3), some (.int l4), some (.int l5), some (.int l6), some (.int l7)]) (st' := [.ref (gR h l1 10), .int l3, .ref (gR h l0 1)]) (h' := h) rfl ?_
        refine mX_to 1 (k' := 61) (ls' := [some (.ref l0), some (.ref l1), some (.int l2), some (.int l3), some (.int l4), some (.int l5), some (.int l6), some (.int l7)]) (st' := [.int l7, .ref (gR h l1 10), .int l3, .ref (gR h l0 1)]) (h' := h) rfl ?_
        refine mX_ck (k' := 62) (ls' := [some (.ref l0), some (.ref l1), some (.int l2), some (.int l3), some (.int l4), some (.int l5), some (.int l6), some (.int l7)]) (st' := [.int (gI h (gR h l1 10) (ix l7)), .int l3, .ref (gR h l0 1)]) (h' := h) rfl ?_
        refine mX_ck (k' := 63) (ls' := [some (.ref l0), some (.ref l1), some (.int l2), some (.int l3), some (.int l4), some (.int l5), some (.int l6), some (.int l7)]) (st' := []) (h' := (sI h (gR h l0 1) (ix l3) (gI h (gR h l1 10) (ix l7)))) rfl ?_
        refine lt_gen (X := fun h8 : MH => mX (mE mtab d) KX3_valueFor 63 [some (.ref l0), some (.ref l1), some (.int l2), some (.int l3), some (.int l4), some (.int l5), some (.int l6), some (.int l7)] [] h8) fun h8 => ?_
        refine mX_to 2 (k' := 160) (ls' := [some (.ref l0), some (.ref l1), some (.int l2), some (.int (l3 + 1)), some (.int l4), some (.int l5), some (.int l6), some (.int l7)]) (st' := []) (h' := h8) rfl ?_
        rfl
      · rfl
    · rfl
  · rfl
theorem D_X3_valueFor_162 (d : Nat) (h : MH) (l0 : Nat) (l1 : Nat) (l2 : Int32) (l3 : Int32) (l4 : Int32) (l5 : Int32) (o6 : Option Value) (o7 : Option Value) : mX (mE mtab d) KX3_valueFor 162 [some (.ref l0), some (.ref l1), some (.int l2), some (.int l3), some (.int l4), some (.int l5), o6, o7] [] h = (if l3 ≤ 0 then some (.int 0, h) else ck (kd h l0 = 4) (ck ((kd h (gR h l0 1) = 20 ∨ kd h (gR h l0 1) = 24) ∧ ib (l3 - 1) (ln h (gR h l0 1))) (some (.int (gI h (gR h l0 1) (ix (l3 - 1))), h)))) := by
  refine mX_to 1 (k' := 163) (ls' := [some (.ref l0), some (.ref l1), some (.int l2), some (.int l3), some (.int l4), some (.int l5), o6, o7]) (st' := [.int l3]) (h' := h) rfl ?_
  refine mX_br (t := 171) (f := 164) (ls' := [some (.ref l0), some (.ref l1), some (.int l2), some (.int l3), some (.int l4), some (.int l5), o6, o7]) (st' := []) (h' := h) rfl ?_ ?_
  · refine mX_to 1 (k' := 172) (ls' := [some (.ref l0), some (.ref l1), some (.int l2), some (.int l3), some (.int l4), some (.int l5), o6, o7]) (st' := [.int 0]) (h' := h) rfl ?_
    exact mX_reti rfl
  · refine mX_to 1 (k' := 165) (ls' := [some (.ref l0), some (.ref l1), some (.int l2), some (.int l3), some (.int l4), some (.int l5), o6, o7]) (st' := [.ref l0]) (h' := h) rfl ?_
    refine mX_ck (k' := 166) (ls' := [some (.ref l0), some (.ref l1), some (.int l2), some (.int l3), some (.int l4), some (.int l5), o6, o7]) (st' := [.ref (gR h l0 1)]) (h' := h) rfl ?_
    refine mX_to 3 (k' := 169) (ls' := [some (.ref l0), some (.ref l1), some (.int l2), some (.int l3), some (.int l4), some (.int l5), o6, o7]) (st' := [.int (l3 - 1), .ref (gR h l0 1)]) (h' := h) rfl ?_
    refine mX_ck (k' := 170) (ls' := [some (.ref l0), some (.ref l1), some (.int l2), some (.int l3), some (.int l4), some (.int l5), o6, o7]) (st' := [.int (gI h (gR h l0 1) (ix (l3 - 1)))]) (h' := h) rfl ?_
    refine mX_to 1 (k' := 172) (ls' := [some (.ref l0), some (.ref l1), some (.int l2), some (.int l3), some (.int l4), some (.int l5), o6, o7]) (st' := [.int (gI h (gR h l0 1) (ix (l3 - 1)))]) (h' := h) rfl ?_
    exact mX_reti rfl
theorem D_X3_valueFor_65 (d : Nat) (h : MH) (l0 : Nat) (l1 : Nat) (l2 : Int32) (l3 : Int32) (l4 : Int32) (l5 : Int32) (l6 : Int32) (l7 : Int32) : mX (mE mtab d) KX3_valueFor 65 [some (.ref l0), some (.ref l1), some (.int l2), some (.int l3), some (.int l4), some (.int l5), some (.int l6), some (.int l7)] [] h = (if l6 = 2 then (if l7 ≤ l4 then mX (mE mtab d) KX3_valueFor 74 [some (.ref l0), some (.ref l1), some (.int l2), some (.int l3), some (.int l4), some (.int l5), some (.int l6), some (.int l7)] [.int l4] h else mX (mE mtab d) KX3_valueFor 74 [some (.ref l0), some (.ref l1), some (.int l2), some (.int l3), some (.int l4), some (.int l5), some (.int l6), some (.int l7)] [.int l7] h) else (if l6 = 3 then (if l3 ≤ 0 then mX (mE mtab d) KX3_valueFor 95 [some (.ref l0), some (.ref l1), some (.int l2), some (.int l3), some (.int l4), some (.int l5), some (.int l6), some (.int l7)] [] h else ck (kd h l0 = 4) (ck ((kd h (gR h l0 1) = 20 ∨ kd h (gR h l0 1) = 24) ∧ ib (l3 + (-1)) (ln h (gR h l0 1))) ((if (gI h (gR h l0 1) (ix (l3 + (-1)))) = 0 then (if l7 ≤ l4 then mX (mE mtab d) KX3_valueFor 92 [some (.ref l0), some (.ref l1), some (.int l2), some (.int (l3 + (-1))), some (.int l4), some (.int l5), some (.int l6), some (.int l7)] [] h else mX (mE mtab d) KX3_valueFor 93 [some (.ref l0), some (.ref l1), some (.int l2), some (.int (l3 + (-1))), some (.int l4), some (.int l5), some (.int l6), some (.int l7)] [.int l7] h) else mX (mE mtab d) KX3_valueFor 92 [some (.ref l0), some (.ref l1), some (.int l2), some (.int (l3 + (-1))), some (.int l4), some (.int l5), some (.int l6), some (.int l7)] [] h)))) else mX (mE mtab d) KX3_valueFor 95 [some (.ref l0), some (.ref l1), some (.int l2), some (.int l3), some (.int l4), some (.int l5), some (.int l6), some (.int l7)] [] h)) := by
  refine mX_to 2 (k' := 67) (ls' := [some (.ref l0), some (.ref l1), some (.int l2), some (.int l3), some (.int l4), some (.int l5), some (.int l6), some (.int l7)]) (st' := [.int 2, .int l6]) (h' := h) rfl ?_
  refine mX_br (t := 68) (f := 76) (ls' := [some (.ref l0), some (.ref l1), some (.int l2), some (.int l3), some (.int l4), some (.int l5), some (.int l6), some (.int l7)]) (st' := []) (h' := h) rfl ?_ ?_
  · refine mX_to 2 (k' := 70) (ls' := [some (.ref l0), some (.ref l1), some (.int l2), some (.int l3), some (.int l4), some (.int l5), some (.int l6), some (.int l7)]) (st' := [.int l4, .int l7]) (h' := h) rfl ?_
    refine mX_br (t := 73) (f := 71) (ls' := [some (.ref l0), some (.ref l1), some (.int l2), some (.int l3), some (.int l4), some (.int l5), some (.int l6), some (.int l7)]) (st' := []) (h' := h) rfl ?_ ?_
    · refine mX_to 1 (k' := 74) (ls' := [some (.ref l0), some (.ref l1), some (.int l2), some (.int l3), some (.int l4), some (.int l5), some (.int l6), some (.int l7)]) (st' := [.int l4]) (h' := h) rfl ?_
      rfl
    · refine mX_to 2 (k' := 74) (ls' := [some (.ref l0), some (.ref l1), some (.int l2), some (.int l3), some (.int l4), some (.int l5), some (.int l6), some (.int l7)]) (st' := [.int l7]) (h' := h) rfl ?_
      rfl
  · refine mX_to 2 (k' := 78) (ls' := [some (.ref l0), some (.ref l1), some (.int l2), some (.int l3), some (.int l4), some (.int l5), some (.int l6), some (.int l7)]) (st' := [.int 3, .int l6]) (h' := h) rfl ?_
    refine mX_br (t := 79) (f := 95) (ls' := [some (.ref l0), some (.ref l1), some (.int l2), some (.int l3), some (.int l4), some (.int l5), some (.int l6), some (.int l7)]) (st' := []) (h' := h) rfl ?_ ?_
    · refine mX_to 1 (k' := 80) (ls' := [some (.ref l0), some (.ref l1), some (.int l2), some (.int l3), some (.int l4), some (.int l5), some (.int l6), some (.int l7)]) (st' := [.int l3]) (h' := h) rfl ?_
      refine mX_br (t := 95) (f := 81) (ls' := [some (.ref l0), some (.ref l1), some (.int l2), some (.int l3), some (.int l4), some (.int l5), some (.int l6), some (.int l7)]) (st' := []) (h' := h) rfl ?_ ?_
      · rfl
      · refine mX_to 2 (k' := 83) (ls' := [some (.ref l0), some (.ref l1), some (.int l2), some (.int (l3 + (-1))), some (.int l4), some (.int l5), some (.int l6), some (.int l7)]) (st' := [.ref l0]) (h' := h) rfl ?_
        refine mX_ck (k' := 84) (ls' := [some (.ref l0), some (.ref l1), some (.int l2), some (.int (l3 + (-1))), some (.int l4), some (.int l5), some (.int l6), some (.int l7)]) (st' := [.ref (gR h l0 1)]) (h' := h) rfl ?_
        refine mX_to 1 (k' := 85) (ls' := [some (.ref l0), some (.ref l1), some (.int l2), some (.int (l3 + (-1))), some (.int l4), some (.int l5), some (.int l6), some (.int l7)]) (st' := [.int (l3 + (-1)), .ref (gR h l0 1)]) (h' := h) rfl ?_
        refine mX_ck (k' := 86) (ls' := [some (.ref l0), some (.ref l1), some (.int l2), some (.int (l3 + (-1))), some (.int l4), some (.int l5), some (.int l6), some (.int l7)]) (st' := [.int (gI h (gR h l0 1) (ix (l3 + (-1))))]) (h' := h) rfl ?_
        refine mX_br (t := 87) (f := 92) (ls' := [some (.ref l0), some (.ref l1), some (.int l2), some (.int (l3 + (-1))), some (.int l4), some (.int l5), some (.int l6), some (.int l7)]) (st' := []) (h' := h) rfl ?_ ?_
        · refine mX_to 2 (k' := 89) (ls' := [some (.ref l0), some (.ref l1), some (.int l2), some (.int (l3 + (-1))), some (.int l4), some (.int l5), some (.int l6), some (.int l7)]) (st' := [.int l4, .int l7]) (h' := h) rfl ?_
          refine mX_br (t := 92) (f := 90) (ls' := [some (.ref l0), some (.ref l1), some (.int l2), some (.int (l3 + (-1))), some (.int l4), some (.int l5), some (.int l6), some (.int l7)]) (st' := []) (h' := h) rfl ?_ ?_
          · rfl
          · refine mX_to 2 (k' := 93) (ls' := [some (.ref l0), some (.ref l1), some (.int l2), some (.int (l3 + (-1))), some (.int l4), some (.int l5), some (.int l6), some (.int l7)]) (st' := [.int l7]) (h' := h) rfl ?_
            rfl
        · rfl
    · rfl
theorem D_X3_valueFor_74 (d : Nat) (h : MH) (l0 : Nat) (l1 : Nat) (l2 : Int32) (l3 : Int32) (l4 : Int32) (l5 : Int32) (l6 : Int32) (l7 : Int32) (s0 : Int32) : mX (mE mtab d) KX3_valueFor 74 [some (.ref l0), some (.ref l1), some (.int l2), some (.int l3), some (.int l4), some (.int l5), some (.int l6), some (.int l7)] [.int s0] h = mX (mE mtab d) KX3_valueFor 160 [some (.ref l0), some (.ref l1), some (.int l2), some (.int l3), some (.int s0), some (.int l5), some (.int l6), some (.int l7)] [] h := by
  refine mX_to 2 (k' := 160) (ls' := [some (.ref l0), some (.ref l1), some (.int l2), some (.int l3), some (.int s0), some (.int l5), some (.int l6), some (.int l7)]) (st' := []) (h' := h) rfl ?_
  rfl
theorem D_X3_valueFor_95 (d : Nat) (h : MH) (l0 : Nat) (l1 : Nat) (l2 : Int32) (l3 : Int32) (l4 : Int32) (l5 : Int32) (l6 : Int32) (l7 : Int32) : mX (mE mtab d) KX3_valueFor 95 [some (.ref l0), some (.ref l1), some (.int l2), some (.int l3), some (.int l4), some (.int l5), some (.int l6), some (.int l7)] [] h = (if l6 = 6 then (if l3 ≤ 0 then mX (mE mtab d) KX3_valueFor 115 [some (.ref l0), some (.ref l1), some (.int l2), some (.int l3), some (.int l4), some (.int l5), some (.int l6), some (.int l7)] [] h else ck (kd h l0 = 4) (ck (kd h l0 = 4) (ck ((kd h (gR h l0 1) = 20 ∨ kd h (gR h l0 1) = 24) ∧ ib (l3 - 1) (ln h (gR h l0 1))) (ck (kd h l1 = 10) (cI (mE mtab d 141 [.ref l1, .int (gI h (gR h l0 1) (ix (l3 - 1)))] h) (fun x12 h11 => ck (kd h11 (gR h l0 1) = 20 ∧ ib (l3 - 1) (ln h11 (gR h l0 1))) (lt_ (sI h11 (gR h l0 1) (ix (l3 - 1)) x12) fun h13 => mX (mE mtab d) KX3_valueFor 160 [some (.ref l0), some (.ref l1), some (.int l2), some (.int l3), some (.int l4), some (.int l5), some (.int l6), some (.int l7)] [] h13))))))) else mX (mE mtab d) KX3_valueFor 115 [some (.ref l0), some (.ref l1), some (.int l2), some (.int l3), some (.int l4), some (.int l5), some (.int l6), some (.int l7)] [] h) := by
  refine mX_to 2 (k' := 97) (ls' := [some (.ref l0), some (.ref l1), some (.int l2), some (.int l3), some (.int l4), some (.int l5), some (.int l6), some (.int l7)]) (st' := [.int 6, .int l6]) (h' := h) rfl ?_
  refine mX_br (t := 98) (f := 115) (ls' := [some (.ref l0), some (.ref l1), some (.int l2), some (.int l3), some (.int l4), some (.int l5), some (.int l6), some (.int l7)]) (st' := []) (h' := h) rfl ?_ ?_
  · refine mX_to 1 (k' := 99) (ls' := [some (.ref l0), some (.ref l1), some (.int l2), some (.int l3), some (.int l4), some (.int l5), some (.int l6), some (.int l7)]) (st' := [.int l3]) (h' := h) rfl ?_
    refine mX_br (t := 115) (f := 100) (ls' := [some (.ref l0), some (.ref l1), some (.int l2), some (.int l3), some (.int l4), some (.int l5), some (.int l6), some (.int l7)]) (st' := []) (h' := h) rfl ?_ ?_
    · rfl
    · refine mX_to 1 (k' := 101) (ls' := [some (.ref l0), some (.ref l1), some (.int l2), some (.int l3), some (.int l4), some (.int l5), some (.int l6), some (.int l7)]) (st' := [.ref l0]) (h' := h) rfl ?_
      refine mX_ck (k' := 102) (ls' := [some (.ref l0), some (.ref l1), some (.int l2), some (.int l3), some (.int l4), some (.int l5), some (.int l6), some (.int l7)]) (st' := [.ref (gR h l0 1)]) (h' := h) rfl ?_
      refine mX_to 5 (k' := 107) (ls' := [some (.ref l0), some (.ref l1), some (.int l2), some (.int l3), some (.int l4), some (.int l5), some (.int l6), some (.int l7)]) (st' := [.ref l0, .ref l1, .int (l3 - 1), .ref (gR h l0 1)]) (h' := h) rfl ?_
      refine mX_ck (k' := 108) (ls' := [some (.ref l0), some (.ref l1), some (.int l2), some (.int l3), some (.int l4), some (.int l5), some (.int l6), some (.int l7)]) (st' := [.ref (gR h l0 1), .ref l1, .int (l3 - 1), .ref (gR h l0 1)]) (h' := h) rfl ?_
      refine mX_to 3 (k' := 111) (ls' := [some (.ref l0), some (.ref l1), some (.int l2), some (.int l3), some (.int l4), some (.int l5), some (.int l6), some (.int l7)]) (st' := [.int (l3 - 1), .ref (gR h l0 1), .ref l1, .int (l3 - 1), .ref (gR h l0 1)]) (h' := h) rfl ?_
      refine mX_ck (k' := 112) (ls' := [some (.ref l0), some (.ref l1), some (.int l2), some (.int l3), some (.int l4), some (.int l5), some (.int l6), some (.int l7)]) (st' := [.int (gI h (gR h l0 1) (ix (l3 - 1))), .ref l1, .int (l3 - 1), .ref (gR h l0 1)]) (h' := h) rfl ?_
      refine mX_ckc (m := mcl (mE mtab d 141 [.ref l1, .int (gI h (gR h l0 1) (ix (l3 - 1)))] h) 1 113 [some (.ref l0), some (.ref l1), some (.int l2), some (.int l3), some (.int l4), some (.int l5), some (.int l6), some (.int l7)] [.int (l3 - 1), .ref (gR h l0 1)]) rfl ?_
      refine mk_cI ?_
      intro x12 h11
      refine mX_ck (k' := 114) (ls' := [some (.ref l0), some (.ref l1), some (.int l2), some (.int l3), some (.int l4), some (.int l5), some (.int l6), some (.int l7)]) (st' := []) (h' := (sI h11 (gR h l0 1) (ix (l3 - 1)) x12)) rfl ?_
      refine lt_gen (X := fun h13 : MH => mX (mE mtab d) KX3_valueFor 114 [some (.ref l0), some (.ref l1), some (.int l2), some (.int l3), some (.int l4), some (.int l5), some (.int l6), some (.int l7)] [] h13) fun h13 => ?_
      refine mX_to 1 (k' := 160) (ls' := [some (.ref l0), some (.ref l1), some (.int l2), some (.int l3), some (.int l4), some (.int l5), some (.int l6), some (.int l7)]) (st' := []) (h' := h13) rfl ?_
      rfl
  · rfl
theorem D_X3_valueFor_92 (d : Nat) (h : MH) (l0 : Nat) (l1 : Nat) (l2 : Int32) (l3 : Int32) (l4 : Int32) (l5 : Int32) (l6 : Int32) (l7 : Int32) : mX (mE mtab d) KX3_valueFor 92 [some (.ref l0), some (.ref l1), some (.int l2), some (.int l3), some (.int l4), some (.int l5), some (.int l6), some (.int l7)] [] h = mX (mE mtab d) KX3_valueFor 93 [some (.ref l0), some (.ref l1), some (.int l2), some (.int l3), some (.int l4), some (.int l5), some (.int l6), some (.int l7)] [.int l4] h := by
  refine mX_to 1 (k' := 93) (ls' := [some (.ref l0), some (.ref l1), some (.int l2), some (.int l3), some (.int l4), some (.int l5), some (.int l6), some (.int l7)]) (st' := [.int l4]) (h' := h) rfl ?_
  rfl
theorem D_X3_valueFor_93 (d : Nat) (h : MH) (l0 : Nat) (l1 : Nat) (l2 : Int32) (l3 : Int32) (l4 : Int32) (l5 : Int32) (l6 : Int32) (l7 : Int32) (s0 : Int32) : mX (mE mtab d) KX3_valueFor 93 [some (.ref l0), some (.ref l1), some (.int l2), some (.int l3), some (.int l4), some (.int l5), some (.int l6), some (.int l7)] [.int s0] h = mX (mE mtab d) KX3_valueFor 160 [some (.ref l0), some (.ref l1), some (.int l2), some (.int l3), some (.int s0), some (.int l5), some (.int l6), some (.int l7)] [] h := by
  refine mX_to 2 (k' := 160) (ls' := [some (.ref l0), some (.ref l1), some (.int l2), some (.int l3), some (.int s0), some (.int l5), some (.int l6), some (.int l7)]) (st' := []) (h' := h) rfl ?_
  rfl
theorem D_X3_valueFor_115 (d : Nat) (h : MH) (l0 : Nat) (l1 : Nat) (l2 : Int32) (l3 : Int32) (l4 : Int32) (l5 : Int32) (l6 : Int32) (l7 : Int32) : mX (mE mtab d) KX3_valueFor 115 [some (.ref l0), some (.ref l1), some (.int l2), some (.int l3), some (.int l4), some (.int l5), some (.int l6), some (.int l7)] [] h = (if l6 < 8 then (if l3 ≤ 0 then mX (mE mtab d) KX3_valueFor 135 [some (.ref l0), some (.ref l1), some (.int l2), some (.int l3), some (.int l4), some (.int l5), some (.int l6), some (.int l7)] [] h else ck (kd h l0 = 4) (ck (kd h l0 = 4) (ck ((kd h (gR h l0 1) = 20 ∨ kd h (gR h l0 1) = 24) ∧ ib (l3 - 1) (ln h (gR h l0 1))) (cI (mE mtab d 142 [.int l6, .int (gI h (gR h l0 1) (ix (l3 - 1)))] h) (fun x15 h14 => ck (kd h14 (gR h l0 1) = 20 ∧ ib (l3 - 1) (ln h14 (gR h l0 1))) (lt_ (sI h14 (gR h l0 1) (ix (l3 - 1)) x15) fun h16 => mX (mE mtab d) KX3_valueFor 160 [some (.ref l0), some (.ref l1), some (.int l2), some (.int l3), some (.int l4), some (.int l5), some (.int l6), some (.int l7)] [] h16)))))) else mX (mE mtab d) KX3_valueFor 135 [some (.ref l0), some (.ref l1), some (.int l2), some (.int l3), some (.int l4), some (.int l5), some (.int l6), some (.int l7)] [] h) := by
  refine mX_to 2 (k' := 117) (ls' := [some (.ref l0), some (.ref l1), some (.int l2), some (.int l3), some (.int l4), some (.int l5), some (.int l6), some (.int l7)]) (st' := [.int 8, .int l6]) (h' := h) rfl ?_
  refine mX_br (t := 118) (f := 135) (ls' := [some (.ref l0), some (.ref l1), some (.int l2), some (.int l3), some (.int l4), some (.int l5), some (.int l6), some (.int l7)]) (st' := []) (h' := h) rfl ?_ ?_
  · refine mX_to 1 (k' := 119) (ls' := [some (.ref l0), some (.ref l1), some (.int l2), some (.int l3), some (.int l4), some (.int l5), some (.int l6), some (.int l7)]) (st' := [.int l3]) (h' := h) rfl ?_
    refine mX_br (t := 135) (f := 120) (ls' := [some (.ref l0), some (.ref l1), some (.int l2), some (.int l3), some (.int l4), some (.int l5), some (.int l6), some (.int l7)]) (st' := []) (h' := h) rfl ?_ ?_
    · rfl
    · refine mX_to 1 (k' := 121) (ls' := [some (.ref l0), some (.ref l1), some (.int l2), some (.int l3), some (.int l4), some (.int l5), some (.int l6), some (.int l7)]) (st' := [.ref l0]) (h' := h) rfl ?_
      refine mX_ck (k' := 122) (ls' := [some (.ref l0), some (.ref l1), some (.int l2), some (.int l3), some (.int l4), some (.int l5), some (.int l6), some (.int l7)]) (st' := [.ref (gR h l0 1)]) (h' := h) rfl ?_
      refine mX_to 5 (k' := 127) (ls' := [some (.ref l0), some (.ref l1), some (.int l2), some (.int l3), some (.int l4), some (.int l5), some (.int l6), some (.int l7)]) (st' := [.ref l0, .int l6, .int (l3 - 1), .ref (gR h l0 1)]) (h' := h) rfl ?_
      refine mX_ck (k' := 128) (ls' := [some (.ref l0), some (.ref l1), some (.int l2), some (.int l3), some (.int l4), some (.int l5), some (.int l6), some (.int l7)]) (st' := [.ref (gR h l0 1), .int l6, .int (l3 - 1), .ref (gR h l0 1)]) (h' := h) rfl ?_
      refine mX_to 3 (k' := 131) (ls' := [some (.ref l0), some (.ref l1), some (.int l2), some (.int l3), some (.int l4), some (.int l5), some (.int l6), some (.int l7)]) (st' := [.int (l3 - 1), .ref (gR h l0 1), .int l6, .int (l3 - 1), .ref (gR h l0 1)]) (h' := h) rfl ?_
      refine mX_ck (k' := 132) (ls' := [some (.ref l0), some (.ref l1), some (.int l2), some (.int l3), some (.int l4), some (.int l5), some (.int l6), some (.int l7)]) (st' := [.int (gI h (gR h l0 1) (ix (l3 - 1))), .int l6, .int (l3 - 1), .ref (gR h l0 1)]) (h' := h) rfl ?_
      refine mX_cI (o := mE mtab d 142 [.int l6, .int (gI h (gR h l0 1) (ix (l3 - 1)))] h) (k' := 133) (ls' := [some (.ref l0), some (.ref l1), some (.int l2), some (.int l3), some (.int l4), some (.int l5), some (.int l6), some (.int l7)]) (st' := [.int (l3 - 1), .ref (gR h l0 1)]) rfl ?_
      intro x15 h14
      refine mX_ck (k' := 134) (ls' := [some (.ref l0), some (.ref l1), some (.int l2), some (.int l3), some (.int l4), some (.int l5), some (.int l6), some (.int l7)]) (st' := []) (h' := (sI h14 (gR h l0 1) (ix (l3 - 1)) x15)) rfl ?_
      refine lt_gen (X := fun h16 : MH => mX (mE mtab d) KX3_valueFor 134 [some (.ref l0), some (.ref l1), some (.int l2), some (.int l3), some (.int l4), some (.int l5), some (.int l6), some (.int l7)] [] h16) fun h16 => ?_
      refine mX_to 1 (k' := 160) (ls' := [some (.ref l0), some (.ref l1), some (.int l2), some (.int l3), some (.int l4), some (.int l5), some (.int l6), some (.int l7)]) (st' := []) (h' := h16) rfl ?_
      rfl
  · rfl
theorem D_X3_valueFor_135 (d : Nat) (h : MH) (l0 : Nat) (l1 : Nat) (l2 : Int32) (l3 : Int32) (l4 : Int32) (l5 : Int32) (l6 : Int32) (l7 : Int32) : mX (mE mtab d) KX3_valueFor 135 [some (.ref l0), some (.ref l1), some (.int l2), some (.int l3), some (.int l4), some (.int l5), some (.int l6), some (.int l7)] [] h = (if l6 < 8 then mX (mE mtab d) KX3_valueFor 160 [some (.ref l0), some (.ref l1), some (.int l2), some (.int l3), some (.int l4), some (.int l5), some (.int l6), some (.int l7)] [] h else (if l3 ≤ 1 then mX (mE mtab d) KX3_valueFor 160 [some (.ref l0), some (.ref l1), some (.int l2), some (.int l3), some (.int l4), some (.int l5), some (.int l6), some (.int l7)] [] h else ck (kd h l0 = 4) (ck (kd h l0 = 4) (ck ((kd h (gR h l0 1) = 20 ∨ kd h (gR h l0 1) = 24) ∧ ib ((l3 + (-1)) - 1) (ln h (gR h l0 1))) (ck (kd h l0 = 4) (ck ((kd h (gR h l0 1) = 20 ∨ kd h (gR h l0 1) = 24) ∧ ib (l3 + (-1)) (ln h (gR h l0 1))) (cI (mE mtab d 143 [.int l6, .int (gI h (gR h l0 1) (ix ((l3 + (-1)) - 1))), .int (gI h (gR h l0 1) (ix (l3 + (-1))))] h) (fun x19 h18 => ck (kd h18 (gR h l0 1) = 20 ∧ ib ((l3 + (-1)) - 1) (ln h18 (gR h l0 1))) (lt_ (sI h18 (gR h l0 1) (ix ((l3 + (-1)) - 1)) x19) fun h20 => mX (mE mtab d) KX3_valueFor 160 [some (.ref l0), some (.ref l1), some (.int l2), some (.int (l3 + (-1))), some (.int l4), some (.int l5), some (.int l6), some (.int l7)] [] h20))))))))) := by
  refine mX_to 2 (k' := 137) (ls' := [some (.ref l0), some (.ref l1), some (.int l2), some (.int l3), some (.int l4), some (.int l5), some (.int l6), some (.int l7)]) (st' := [.int 8, .int l6]) (h' := h) rfl ?_
  refine mX_br (t := 160) (f := 138) (ls' := [some (.ref l0), some (.ref l1), some (.int l2), some (.int l3), some (.int l4), some (.int l5), some (.int l6), some (.int l7)]) (st' := []) (h' := h) rfl ?_ ?_
  · rfl
  · refine mX_to 2 (k' := 140) (ls' := [some (.ref l0), some (.ref l1), some (.int l2), some (.int l3), some (.int l4), some (.int l5), some (.int l6), some (.int l7)]) (st' := [.int 1, .int l3]) (h' := h) rfl ?_
    refine mX_br (t := 160) (f := 141) (ls' := [some (.ref l0), some (.ref l1), some (.int l2), some (.int l3), some (.int l4), some (.int l5), some (.int l6), some (.int l7)]) (st' := []) (h' := h) rfl ?_ ?_
    · rfl
    · refine mX_to 2 (k' := 143) (ls' := [some (.ref l0), some (.ref l1), some (.int l2), some (.int (l3 + (-1))), some (.int l4), some (.int l5), some (.int l6), some (.int l7)]) (st' := [.ref l0]) (h' := h) rfl ?_
      refine mX_ck (k' := 144) (ls' := [some (.ref l0), some (.ref l1), some (.int l2), some (.int (l3 + (-1))), some (.int l4), some (.int l5), some (.int l6), some (.int l7)]) (st' := [.ref (gR h l0 1)]) (h' := h) rfl ?_
      refine mX_to 5 (k' := 149) (ls' := [some (.ref l0), some (.ref l1), some (.int l2), some (.int (l3 + (-1))), some (.int l4), some (.int l5), some (.int l6), some (.int l7)]) (st' := [.ref l0, .int l6, .int ((l3 + (-1)) - 1), .ref (gR h l0 1)]) (h' := h) rfl ?_
      refine mX_ck (k' := 150) (ls' := [some (.ref l0), some (.ref l1), some (.int l2), some (.int (l3 + (-1))), some (.int l4), some (.int l5), some (.int l6), some (.int l7)]) (st' := [.ref (gR h l0 1), .int l6, .int ((l3 + (-1)) - 1), .ref (gR h l0 1)]) (h' := h) rfl ?_
      refine mX_to 3 (k' := 153) (ls' := [some (.ref l0), some (.ref l1), some (.int l2), some (.int (l3 + (-1))), some (.int l4), some (.int l5), some (.int l6), some (.int l7)]) (st' := [.int ((l3 + (-1)) - 1), .ref (gR h l0 1), .int l6, .int ((l3 + (-1)) - 1), .ref (gR h l0 1)]) (h' := h) rfl ?_
      refine mX_ck (k' := 154) (ls' := [some (.ref l0), some (.ref l1), some (.int l2), some (.int (l3 + (-1))), some (.int l4), some (.int l5), some (.int l6), some (.int l7)]) (st' := [.int (gI h (gR h l0 1) (ix ((l3 + (-1)) - 1))), .int l6, .int ((l3 + (-1)) - 1), .ref (gR h l0 1)]) (h' := h) rfl ?_
      refine mX_to 1 (k' := 155) (ls' := [some (.ref l0), some (.ref l1), some (.int l2), some (.int (l3 + (-1))), some (.int l4), some (.int l5), some (.int l6), some (.int l7)]) (st' := [.ref l0, .int (gI h (gR h l0 1) (ix ((l3 + (-1)) - 1))), .int l6, .int ((l3 + (-1)) - 1), .ref (gR h l0 1)]) (h' := h) rfl ?_
      refine mX_ck (k' := 156) (ls' := [some (.ref l0), some (.ref l1), some (.int l2), some (.int (l3 + (-1))), some (.int l4), some (.int l5), some (.int l6), some (.int l7)]) (st' := [.ref (gR h l0 1), .int (gI h (gR h l0 1) (ix ((l3 + (-1)) - 1))), .int l6, .int ((l3 + (-1)) - 1), .ref (gR h l0 1)]) (h' := h) rfl ?_
      refine mX_to 1 (k' := 157) (ls' := [some (.ref l0), some (.ref l1), some (.int l2), some (.int (l3 + (-1))), some (.int l4), some (.int l5), some (.int l6), some (.int l7)]) (st' := [.int (l3 + (-1)), .ref (gR h l0 1), .int (gI h (gR h l0 1) (ix ((l3 + (-1)) - 1))), .int l6, .int ((l3 + (-1)) - 1), .ref (gR h l0 1)]) (h' := h) rfl ?_
      refine mX_ck (k' := 158) (ls' := [some (.ref l0), some (.ref l1), some (.int l2), some (.int (l3 + (-1))), some (.int l4), some (.int l5), some (.int l6), some (.int l7)]) (st' := [.int (gI h (gR h l0 1) (ix (l3 + (-1)))), .int (gI h (gR h l0 1) (ix ((l3 + (-1)) - 1))), .int l6, .int ((l3 + (-1)) - 1), .ref (gR h l0 1)]) (h' := h) rfl ?_
      refine mX_cI (o := mE mtab d 143 [.int l6, .int (gI h (gR h l0 1) (ix ((l3 + (-1)) - 1))), .int (gI h (gR h l0 1) (ix (l3 + (-1))))] h) (k' := 159) (ls' := [some (.ref l0), some (.ref l1), some (.int l2), some (.int (l3 + (-1))), some (.int l4), some (.int l5), some (.int l6), some (.int l7)]) (st' := [.int ((l3 + (-1)) - 1), .ref (gR h l0 1)]) rfl ?_
      intro x19 h18
      refine mX_ck (k' := 160) (ls' := [some (.ref l0), some (.ref l1), some (.int l2), some (.int (l3 + (-1))), some (.int l4), some (.int l5), some (.int l6), some (.int l7)]) (st' := []) (h' := (sI h18 (gR h l0 1) (ix ((l3 + (-1)) - 1)) x19)) rfl ?_
      refine lt_gen (X := fun h20 : MH => mX (mE mtab d) KX3_valueFor 160 [some (.ref l0), some (.ref l1), some (.int l2), some (.int (l3 + (-1))), some (.int l4), some (.int l5), some (.int l6), some (.int l7)] [] h20) fun h20 => ?_
      rfl
theorem D_X3_valueFor (d : Nat) (h : MH) (a0 : Nat) (a1 : Nat) (a2 : Int32) : mE mtab (d + 1) 144 [.ref a0, .ref a1, .int a2] h = ck (kd h a1 = 10) (cV (mE mtab d 140 [.ref a1, .int a2] h) (fun h1 => mX (mE mtab d) KX3_valueFor 9 [some (.ref a0), some (.ref a1), some (.int a2), some (.int 0), some (.int 0), some (.int 0), none, none] [] h1)) := by
  refine mE_eq (q := (yX3_valueFor, cX3_valueFor, 8, (some .int), KX3_valueFor)) (C := KX3_valueFor) (ls := [some (.ref a0), some (.ref a1), some (.int a2), none, none, none, none, none]) rfl rfl rfl rfl ?_
  refine mX_to 2 (k' := 2) (ls' := [some (.ref a0), some (.ref a1), some (.int a2), none, none, none, none, none]) (st' := [.int a2, .ref a1]) (h' := h) rfl ?_
  refine mX_ckc (m := mcl (mE mtab d 140 [.ref a1, .int a2] h) 0 3 [some (.ref a0), some (.ref a1), some (.int a2), none, none, none, none, none] []) rfl ?_
  refine mk_cV ?_
  intro h1
  refine mX_to 6 (k' := 9) (ls' := [some (.ref a0), some (.ref a1), some (.int a2), some (.int 0), some (.int 0), some (.int 0), none, none]) (st' := []) (h' := h1) rfl ?_
  rfl
theorem D_X9_tipsNow (d : Nat) (h : MH) (a0 : Nat) : mE mtab (d + 1) 145 [.ref a0] h = ck (kd h a0 = 10) ((if (gR h a0 9) = 0 then some (.int 9, h) else ck (kd h a0 = 10) (ck (kd h (gR h a0 9) = 9) ((if (gR h (gR h a0 9) 0) = 0 then some (.int 9, h) else ck (kd h a0 = 10) (ck (kd h (gR h a0 9) = 9) (ck (kd h (gR h (gR h a0 9) 0) = 4) (cI (mE mtab d 144 [.ref (gR h (gR h a0 9) 0), .ref a0, .int (-1)] h) (fun x2 h1 => some (.int (jmin (jmax x2 0) 99), h1)))))))))) := by
  refine mE_eq (q := (yX9_tipsNow, cX9_tipsNow, 1, (some .int), KX9_tipsNow)) (C := KX9_tipsNow) (ls := [some (.ref a0)]) rfl rfl rfl rfl ?_
  refine mX_to 1 (k' := 1) (ls' := [some (.ref a0)]) (st' := [.ref a0]) (h' := h) rfl ?_
  refine mX_ck (k' := 2) (ls' := [some (.ref a0)]) (st' := [.ref (gR h a0 9)]) (h' := h) rfl ?_
  refine mX_br (t := 7) (f := 3) (ls' := [some (.ref a0)]) (st' := []) (h' := h) rfl ?_ ?_
  · refine mX_to 1 (k' := 8) (ls' := [some (.ref a0)]) (st' := [.int 9]) (h' := h) rfl ?_
    exact mX_reti rfl
  · refine mX_to 1 (k' := 4) (ls' := [some (.ref a0)]) (st' := [.ref a0]) (h' := h) rfl ?_
    refine mX_ck (k' := 5) (ls' := [some (.ref a0)]) (st' := [.ref (gR h a0 9)]) (h' := h) rfl ?_
    refine mX_ck (k' := 6) (ls' := [some (.ref a0)]) (st' := [.ref (gR h (gR h a0 9) 0)]) (h' := h) rfl ?_
    refine mX_br (t := 7) (f := 9) (ls' := [some (.ref a0)]) (st' := []) (h' := h) rfl ?_ ?_
    · refine mX_to 1 (k' := 8) (ls' := [some (.ref a0)]) (st' := [.int 9]) (h' := h) rfl ?_
      exact mX_reti rfl
    · refine mX_to 1 (k' := 10) (ls' := [some (.ref a0)]) (st' := [.ref a0]) (h' := h) rfl ?_
      refine mX_ck (k' := 11) (ls' := [some (.ref a0)]) (st' := [.ref (gR h a0 9)]) (h' := h) rfl ?_
      refine mX_ck (k' := 12) (ls' := [some (.ref a0)]) (st' := [.ref (gR h (gR h a0 9) 0)]) (h' := h) rfl ?_
      refine mX_to 2 (k' := 14) (ls' := [some (.ref a0)]) (st' := [.int (-1), .ref a0, .ref (gR h (gR h a0 9) 0)]) (h' := h) rfl ?_
      refine mX_ckc (m := mcl (mE mtab d 144 [.ref (gR h (gR h a0 9) 0), .ref a0, .int (-1)] h) 1 15 [some (.ref a0)] []) rfl ?_
      refine mk_cI ?_
      intro x2 h1
      refine mX_to 4 (k' := 19) (ls' := [some (.ref a0)]) (st' := [.int (jmin (jmax x2 0) 99)]) (h' := h1) rfl ?_
      exact mX_reti rfl
theorem D_X9_holdsStill (d : Nat) (h : MH) (a0 : Nat) : mE mtab (d + 1) 146 [.ref a0] h = ck (kd h a0 = 10) (cI (mE mtab d 139 [.ref a0] h) (fun x2 h1 => ck (kd h1 a0 = 10) (cI (mE mtab d 145 [.ref a0] h1) (fun x4 h3 => (if (jabs x2) ≤ x4 then some (.int 1, h3) else some (.int 0, h3)))))) := by
  refine mE_eq (q := (yX9_holdsStill, cX9_holdsStill, 1, (some .boolean), KX9_holdsStill)) (C := KX9_holdsStill) (ls := [some (.ref a0)]) rfl rfl rfl rfl ?_
  refine mX_to 1 (k' := 1) (ls' := [some (.ref a0)]) (st' := [.ref a0]) (h' := h) rfl ?_
  refine mX_ckc (m := mcl (mE mtab d 139 [.ref a0] h) 1 2 [some (.ref a0)] []) rfl ?_
  refine mk_cI ?_
  intro x2 h1
  refine mX_to 2 (k' := 4) (ls' := [some (.ref a0)]) (st' := [.ref a0, .int (jabs x2)]) (h' := h1) rfl ?_
  refine mX_ckc (m := mcl (mE mtab d 145 [.ref a0] h1) 1 5 [some (.ref a0)] [.int (jabs x2)]) rfl ?_
  refine mk_cI ?_
  intro x4 h3
  refine mX_br (t := 6) (f := 8) (ls' := [some (.ref a0)]) (st' := []) (h' := h3) rfl ?_ ?_
  · refine mX_to 2 (k' := 9) (ls' := [some (.ref a0)]) (st' := [.int 1]) (h' := h3) rfl ?_
    exact mX_retb (by decide) rfl
  · refine mX_to 1 (k' := 9) (ls' := [some (.ref a0)]) (st' := [.int 0]) (h' := h3) rfl ?_
    exact mX_retb (by decide) rfl
theorem D_X9_go_21 (d : Nat) (h : MH) (l0 : Nat) (l1 : Int32) (l2 : Int32) (l3 : Int32) : mX (mE mtab d) KX9_go 21 [some (.ref l0), some (.int l1), some (.int l2), some (.int l3)] [] h = ck (kd h l0 = 10) (ck (kd h (gR h l0 2) = 20 ∧ ib l1 (ln h (gR h l0 2))) (lt_ (sI h (gR h l0 2) (ix l1) l3) fun h8 => some (.int 0, h8))) := by
  refine mX_to 1 (k' := 22) (ls' := [some (.ref l0), some (.int l1), some (.int l2), some (.int l3)]) (st' := [.ref l0]) (h' := h) rfl ?_
  refine mX_ck (k' := 23) (ls' := [some (.ref l0), some (.int l1), some (.int l2), some (.int l3)]) (st' := [.ref (gR h l0 2)]) (h' := h) rfl ?_
  refine mX_to 2 (k' := 25) (ls' := [some (.ref l0), some (.int l1), some (.int l2), some (.int l3)]) (st' := [.int l3, .int l1, .ref (gR h l0 2)]) (h' := h) rfl ?_
  refine mX_ck (k' := 26) (ls' := [some (.ref l0), some (.int l1), some (.int l2), some (.int l3)]) (st' := []) (h' := (sI h (gR h l0 2) (ix l1) l3)) rfl ?_
  refine lt_gen (X := fun h8 : MH => mX (mE mtab d) KX9_go 26 [some (.ref l0), some (.int l1), some (.int l2), some (.int l3)] [] h8) fun h8 => ?_
  refine mX_to 1 (k' := 27) (ls' := [some (.ref l0), some (.int l1), some (.int l2), some (.int l3)]) (st' := [.int 0]) (h' := h8) rfl ?_
  exact mX_retb (by decide) rfl
theorem D_X9_go (d : Nat) (h : MH) (a0 : Nat) (a1 : Int32) (a2 : Int32) : mE mtab (d + 1) 147 [.ref a0, .int a1, .int a2] h = ck (kd h a0 = 10) (cI (mE mtab d 17 [.ref a0, .int a1] h) (fun x2 h1 => (if x2 = 0 then some (.int 0, h1) else ck (kd h1 a0 = 10) (ck ((kd h1 (gR h1 a0 2) = 20 ∨ kd h1 (gR h1 a0 2) = 24) ∧ ib a1 (ln h1 (gR h1 a0 2))) (lt_ (gI h1 (gR h1 a0 2) (ix a1)) fun v3 => ck (kd h1 a0 = 10) (cI (mE mtab d 138 [.ref a0, .int a1, .int a2] h1) (fun x5 h4 => (if x5 = 0 then mX (mE mtab d) KX9_go 21 [some (.ref a0), some (.int a1), some (.int a2), some (.int v3)] [] h4 else ck (kd h4 a0 = 10) (cI (mE mtab d 146 [.ref a0] h4) (fun x7 h6 => (if x7 = 0 then mX (mE mtab d) KX9_go 21 [some (.ref a0), some (.int a1), some (.int a2), some (.int v3)] [] h6 else some (.int 1, h6)))))))))))) := by
  refine mE_eq (q := (yX9_go, cX9_go, 4, (some .boolean), KX9_go)) (C := KX9_go) (ls := [some (.ref a0), some (.int a1), some (.int a2), none]) rfl rfl rfl rfl ?_
  refine mX_to 2 (k' := 2) (ls' := [some (.ref a0), some (.int a1), some (.int a2), none]) (st' := [.int a1, .ref a0]) (h' := h) rfl ?_
  refine mX_ckc (m := mcl (mE mtab d 17 [.ref a0, .int a1] h) 1 3 [some (.ref a0), some (.int a1), some (.int a2), none] []) rfl ?_
  refine mk_cI ?_
  intro x2 h1
  refine mX_br (t := 4) (f := 6) (ls' := [some (.ref a0), some (.int a1), some (.int a2), none]) (st' := []) (h' := h1) rfl ?_ ?_
  · refine mX_to 1 (k' := 5) (ls' := [some (.ref a0), some (.int a1), some (.int a2), none]) (st' := [.int 0]) (h' := h1) rfl ?_
    exact mX_retb (by decide) rfl
  · refine mX_to 1 (k' := 7) (ls' := [some (.ref a0), some (.int a1), some (.int a2), none]) (st' := [.ref a0]) (h' := h1) rfl ?_
    refine mX_ck (k' := 8) (ls' := [some (.ref a0), some (.int a1), some (.int a2), none]) (st' := [.ref (gR h1 a0 2)]) (h' := h1) rfl ?_
    refine mX_to 1 (k' := 9) (ls' := [some (.ref a0), some (.int a1), some (.int a2), none]) (st' := [.int a1, .ref (gR h1 a0 2)]) (h' := h1) rfl ?_
    refine mX_ck (k' := 10) (ls' := [some (.ref a0), some (.int a1), some (.int a2), none]) (st' := [.int (gI h1 (gR h1 a0 2) (ix a1))]) (h' := h1) rfl ?_
    refine lt_gen (X := fun v3 : Int32 => mX (mE mtab d) KX9_go 10 [some (.ref a0), some (.int a1), some (.int a2), none] [.int v3] h1) fun v3 => ?_
    refine mX_to 4 (k' := 14) (ls' := [some (.ref a0), some (.int a1), some (.int a2), some (.int v3)]) (st' := [.int a2, .int a1, .ref a0]) (h' := h1) rfl ?_
    refine mX_ckc (m := mcl (mE mtab d 138 [.ref a0, .int a1, .int a2] h1) 1 15 [some (.ref a0), some (.int a1), some (.int a2), some (.int v3)] []) rfl ?_
    refine mk_cI ?_
    intro x5 h4
    refine mX_br (t := 21) (f := 16) (ls' := [some (.ref a0), some (.int a1), some (.int a2), some (.int v3)]) (st' := []) (h' := h4) rfl ?_ ?_
    · rfl
    · refine mX_to 1 (k' := 17) (ls' := [some (.ref a0), some (.int a1), some (.int a2), some (.int v3)]) (st' := [.ref a0]) (h' := h4) rfl ?_
      refine mX_ckc (m := mcl (mE mtab d 146 [.ref a0] h4) 1 18 [some (.ref a0), some (.int a1), some (.int a2), some (.int v3)] []) rfl ?_
      refine mk_cI ?_
      intro x7 h6
      refine mX_br (t := 21) (f := 19) (ls' := [some (.ref a0), some (.int a1), some (.int a2), some (.int v3)]) (st' := []) (h' := h6) rfl ?_ ?_
      · rfl
      · refine mX_to 1 (k' := 20) (ls' := [some (.ref a0), some (.int a1), some (.int a2), some (.int v3)]) (st' := [.int 1]) (h' := h6) rfl ?_
        exact mX_retb (by decide) rfl
theorem D_X6_keptIf_13 (d : Nat) (h : MH) (l0 : Nat) (l1 : Int32) : mX (mE mtab d) KX6_keptIf 13 [some (.ref l0), some (.int l1)] [] h = (if l1 = 0 then ck (mrt 1 l1) (some (.int l1, h)) else ck (kd h l0 = 7) (ck (kd h l0 = 7) (lt_ (sI h l0 1 (((gI h l0 1) + 1) - ((gI h l0 1) + 1) / 31 * 31)) fun h2 => ck (mrt 1 l1) (some (.int l1, h2))))) := by
  refine mX_to 1 (k' := 14) (ls' := [some (.ref l0), some (.int l1)]) (st' := [.int l1]) (h' := h) rfl ?_
  refine mX_br (t := 23) (f := 15) (ls' := [some (.ref l0), some (.int l1)]) (st' := []) (h' := h) rfl ?_ ?_
  · refine mX_to 1 (k' := 24) (ls' := [some (.ref l0), some (.int l1)]) (st' := [.int l1]) (h' := h) rfl ?_
    exact mX_retc rfl
  · refine mX_to 2 (k' := 17) (ls' := [some (.ref l0), some (.int l1)]) (st' := [.ref l0, .ref l0]) (h' := h) rfl ?_
    refine mX_ck (k' := 18) (ls' := [some (.ref l0), some (.int l1)]) (st' := [.int (gI h l0 1), .ref l0]) (h' := h) rfl ?_
    refine mX_to 3 (k' := 21) (ls' := [some (.ref l0), some (.int l1)]) (st' := [.int 31, .int ((gI h l0 1) + 1), .ref l0]) (h' := h) rfl ?_
    refine mX_ckt (c := ¬ (31 : Int32) = 0) (k' := 22) (ls' := [some (.ref l0), some (.int l1)]) (st' := [.int (((gI h l0 1) + 1) - ((gI h l0 1) + 1) / 31 * 31), .ref l0]) (h' := h) (by decide) rfl ?_
    refine mX_ck (k' := 23) (ls' := [some (.ref l0), some (.int l1)]) (st' := []) (h' := (sI h l0 1 (((gI h l0 1) + 1) - ((gI h l0 1) + 1) / 31 * 31))) rfl ?_
    refine lt_gen (X := fun h2 : MH => mX (mE mtab d) KX6_keptIf 23 [some (.ref l0), some (.int l1)] [] h2) fun h2 => ?_
    refine mX_to 1 (k' := 24) (ls' := [some (.ref l0), some (.int l1)]) (st' := [.int l1]) (h' := h2) rfl ?_
    exact mX_retc rfl
theorem D_X6_keptIf (d : Nat) (h : MH) (a0 : Nat) (a1 : Int32) : mE mtab (d + 1) 148 [.ref a0, .int a1] h = (if a1 = 0 then mX (mE mtab d) KX6_keptIf 13 [some (.ref a0), some (.int a1)] [] h else ck (kd h a0 = 7) ((if (gI h a0 2) < 30 then ck (kd h a0 = 7) (ck (kd h a0 = 7) (lt_ (sI h a0 2 ((gI h a0 2) + 1)) fun h1 => ck (mrt 1 a1) (some (.int a1, h1)))) else mX (mE mtab d) KX6_keptIf 13 [some (.ref a0), some (.int a1)] [] h))) := by
  refine mE_eq (q := (yX6_keptIf, cX6_keptIf, 2, (some .boolean), KX6_keptIf)) (C := KX6_keptIf) (ls := [some (.ref a0), some (.int a1)]) rfl rfl rfl rfl ?_
  refine mX_to 1 (k' := 1) (ls' := [some (.ref a0), some (.int a1)]) (st' := [.int a1]) (h' := h) rfl ?_
  refine mX_br (t := 13) (f := 2) (ls' := [some (.ref a0), some (.int a1)]) (st' := []) (h' := h) rfl ?_ ?_
  · rfl
  · refine mX_to 1 (k' := 3) (ls' := [some (.ref a0), some (.int a1)]) (st' := [.ref a0]) (h' := h) rfl ?_
    refine mX_ck (k' := 4) (ls' := [some (.ref a0), some (.int a1)]) (st' := [.int (gI h a0 2)]) (h' := h) rfl ?_
    refine mX_to 1 (k' := 5) (ls' := [some (.ref a0), some (.int a1)]) (st' := [.int 30, .int (gI h a0 2)]) (h' := h) rfl ?_
    refine mX_br (t := 6) (f := 13) (ls' := [some (.ref a0), some (.int a1)]) (st' := []) (h' := h) rfl ?_ ?_
    · refine mX_to 2 (k' := 8) (ls' := [some (.ref a0), some (.int a1)]) (st' := [.ref a0, .ref a0]) (h' := h) rfl ?_
      refine mX_ck (k' := 9) (ls' := [some (.ref a0), some (.int a1)]) (st' := [.int (gI h a0 2), .ref a0]) (h' := h) rfl ?_
      refine mX_to 2 (k' := 11) (ls' := [some (.ref a0), some (.int a1)]) (st' := [.int ((gI h a0 2) + 1), .ref a0]) (h' := h) rfl ?_
      refine mX_ck (k' := 12) (ls' := [some (.ref a0), some (.int a1)]) (st' := []) (h' := (sI h a0 2 ((gI h a0 2) + 1))) rfl ?_
      refine lt_gen (X := fun h1 : MH => mX (mE mtab d) KX6_keptIf 12 [some (.ref a0), some (.int a1)] [] h1) fun h1 => ?_
      refine mX_to 2 (k' := 24) (ls' := [some (.ref a0), some (.int a1)]) (st' := [.int a1]) (h' := h1) rfl ?_
      exact mX_retc rfl
    · rfl
theorem D_X0_walks (d : Nat) (h : MH) (a0 : Nat) (a1 : Int32) (a2 : Int32) : mE mtab (d + 1) 149 [.ref a0, .int a1, .int a2] h = ck (kd h a0 = 1) (ck (kd h a0 = 1) (ck (kd h (gR h a0 1) = 7) (cV (mE mtab d 137 [.ref (gR h a0 1), .ref (gR h a0 0)] h) (fun h1 => ck (kd h1 a0 = 1) (ck (kd h1 a0 = 1) (ck (kd h1 (gR h1 a0 0) = 10) (cI (mE mtab d 147 [.ref (gR h1 a0 0), .int a1, .int a2] h1) (fun x3 h2 => ck (kd h2 (gR h1 a0 1) = 7) (cI (mE mtab d 148 [.ref (gR h1 a0 1), .int x3] h2) (fun x5 h4 => ck (mrt 1 x5) (some (.int x5, h4)))))))))))) := by
  refine mE_eq (q := (yX0_walks, cX0_walks, 3, (some .boolean), KX0_walks)) (C := KX0_walks) (ls := [some (.ref a0), some (.int a1), some (.int a2)]) rfl rfl rfl rfl ?_
  refine mX_to 1 (k' := 1) (ls' := [some (.ref a0), some (.int a1), some (.int a2)]) (st' := [.ref a0]) (h' := h) rfl ?_
  refine mX_ck (k' := 2) (ls' := [some (.ref a0), some (.int a1), some (.int a2)]) (st' := [.ref (gR h a0 1)]) (h' := h) rfl ?_
  refine mX_to 1 (k' := 3) (ls' := [some (.ref a0), some (.int a1), some (.int a2)]) (st' := [.ref a0, .ref (gR h a0 1)]) (h' := h) rfl ?_
  refine mX_ck (k' := 4) (ls' := [some (.ref a0), some (.int a1), some (.int a2)]) (st' := [.ref (gR h a0 0), .ref (gR h a0 1)]) (h' := h) rfl ?_
  refine mX_ckc (m := mcl (mE mtab d 137 [.ref (gR h a0 1), .ref (gR h a0 0)] h) 0 5 [some (.ref a0), some (.int a1), some (.int a2)] []) rfl ?_
  refine mk_cV ?_
  intro h1
  refine mX_to 1 (k' := 6) (ls' := [some (.ref a0), some (.int a1), some (.int a2)]) (st' := [.ref a0]) (h' := h1) rfl ?_
  refine mX_ck (k' := 7) (ls' := [some (.ref a0), some (.int a1), some (.int a2)]) (st' := [.ref (gR h1 a0 1)]) (h' := h1) rfl ?_
  refine mX_to 1 (k' := 8) (ls' := [some (.ref a0), some (.int a1), some (.int a2)]) (st' := [.ref a0, .ref (gR h1 a0 1)]) (h' := h1) rfl ?_
  refine mX_ck (k' := 9) (ls' := [some (.ref a0), some (.int a1), some (.int a2)]) (st' := [.ref (gR h1 a0 0), .ref (gR h1 a0 1)]) (h' := h1) rfl ?_
  refine mX_to 2 (k' := 11) (ls' := [some (.ref a0), some (.int a1), some (.int a2)]) (st' := [.int a2, .int a1, .ref (gR h1 a0 0), .ref (gR h1 a0 1)]) (h' := h1) rfl ?_
  refine mX_ckc (m := mcl (mE mtab d 147 [.ref (gR h1 a0 0), .int a1, .int a2] h1) 1 12 [some (.ref a0), some (.int a1), some (.int a2)] [.ref (gR h1 a0 1)]) rfl ?_
  refine mk_cI ?_
  intro x3 h2
  refine mX_ckc (m := mcl (mE mtab d 148 [.ref (gR h1 a0 1), .int x3] h2) 1 13 [some (.ref a0), some (.int a1), some (.int a2)] []) rfl ?_
  refine mk_cI ?_
  intro x5 h4
  exact mX_retc rfl
theorem D_X10_walk (d : Nat) (h : MH) (a0 : Nat) (a1 : Int32) (a2 : Int32) : mE mtab (d + 1) 150 [.ref a0, .int a1, .int a2] h = ck (kd h a0 = 11) (ck (kd h (gR h a0 0) = 1) (cI (mE mtab d 149 [.ref (gR h a0 0), .int a1, .int a2] h) (fun x2 h1 => ck (mrt 1 x2) (some (.int x2, h1))))) := by
  refine mE_eq (q := (yX10_walk, cX10_walk, 3, (some .boolean), KX10_walk)) (C := KX10_walk) (ls := [some (.ref a0), some (.int a1), some (.int a2)]) rfl rfl rfl rfl ?_
  refine mX_to 1 (k' := 1) (ls' := [some (.ref a0), some (.int a1), some (.int a2)]) (st' := [.ref a0]) (h' := h) rfl ?_
  refine mX_ck (k' := 2) (ls' := [some (.ref a0), some (.int a1), some (.int a2)]) (st' := [.ref (gR h a0 0)]) (h' := h) rfl ?_
  refine mX_to 2 (k' := 4) (ls' := [some (.ref a0), some (.int a1), some (.int a2)]) (st' := [.int a2, .int a1, .ref (gR h a0 0)]) (h' := h) rfl ?_
  refine mX_ckc (m := mcl (mE mtab d 149 [.ref (gR h a0 0), .int a1, .int a2] h) 1 5 [some (.ref a0), some (.int a1), some (.int a2)] []) rfl ?_
  refine mk_cI ?_
  intro x2 h1
  exact mX_retc rfl
theorem D_X11_step (d : Nat) (h : MH) (a0 : Int32) : mE mtab (d + 1) 151 [.int a0] h = (if a0 = 0 then some (.int (-1), h) else some (.int 1, h)) := by
  refine mE_eq (q := (yX11_step, cX11_step, 1, (some .int), KX11_step)) (C := KX11_step) (ls := [some (.int a0)]) rfl rfl rfl rfl ?_
  refine mX_to 1 (k' := 1) (ls' := [some (.int a0)]) (st' := [.int a0]) (h' := h) rfl ?_
  refine mX_br (t := 4) (f := 2) (ls' := [some (.int a0)]) (st' := []) (h' := h) rfl ?_ ?_
  · refine mX_to 1 (k' := 5) (ls' := [some (.int a0)]) (st' := [.int (-1)]) (h' := h) rfl ?_
    exact mX_reti rfl
  · refine mX_to 2 (k' := 5) (ls' := [some (.int a0)]) (st' := [.int 1]) (h' := h) rfl ?_
    exact mX_reti rfl
theorem D_X11_canStep (d : Nat) (h : MH) (a0 : Nat) (a1 : Int32) (a2 : Int32) : mE mtab (d + 1) 152 [.ref a0, .int a1, .int a2] h = ck (kd h a0 = 12) (cI (mE mtab d 20 [.ref a0, .int a1] h) (fun x2 h1 => (if x2 = 0 then some (.int 0, h1) else ck (kd h1 a0 = 12) (ck ((kd h1 (gR h1 a0 0) = 20 ∨ kd h1 (gR h1 a0 0) = 24) ∧ ib (9 + a1) (ln h1 (gR h1 a0 0))) (cI (mE mtab d 151 [.int a2] h1) (fun x4 h3 => cI (mE mtab d 15 [.int ((gI h1 (gR h1 a0 0) (ix (9 + a1))) + x4)] h3) (fun x6 h5 => (if x6 = 0 then some (.int 0, h5) else some (.int 1, h5))))))))) := by
  refine mE_eq (q := (yX11_canStep, cX11_canStep, 3, (some .boolean), KX11_canStep)) (C := KX11_canStep) (ls := [some (.ref a0), some (.int a1), some (.int a2)]) rfl rfl rfl rfl ?_
  refine mX_to 2 (k' := 2) (ls' := [some (.ref a0), some (.int a1), some (.int a2)]) (st' := [.int a1, .ref a0]) (h' := h) rfl ?_
  refine mX_ckc (m := mcl (mE mtab d 20 [.ref a0, .int a1] h) 1 3 [some (.ref a0), some (.int a1), some (.int a2)] []) rfl ?_
  refine mk_cI ?_
  intro x2 h1
  refine mX_br (t := 17) (f := 4) (ls' := [some (.ref a0), some (.int a1), some (.int a2)]) (st' := []) (h' := h1) rfl ?_ ?_
  · refine mX_to 1 (k' := 18) (ls' := [some (.ref a0), some (.int a1), some (.int a2)]) (st' := [.int 0]) (h' := h1) rfl ?_
    exact mX_retb (by decide) rfl
  · refine mX_to 1 (k' := 5) (ls' := [some (.ref a0), some (.int a1), some (.int a2)]) (st' := [.ref a0]) (h' := h1) rfl ?_
    refine mX_ck (k' := 6) (ls' := [some (.ref a0), some (.int a1), some (.int a2)]) (st' := [.ref (gR h1 a0 0)]) (h' := h1) rfl ?_
    refine mX_to 3 (k' := 9) (ls' := [some (.ref a0), some (.int a1), some (.int a2)]) (st' := [.int (9 + a1), .ref (gR h1 a0 0)]) (h' := h1) rfl ?_
    refine mX_ck (k' := 10) (ls' := [some (.ref a0), some (.int a1), some (.int a2)]) (st' := [.int (gI h1 (gR h1 a0 0) (ix (9 + a1)))]) (h' := h1) rfl ?_
    refine mX_to 1 (k' := 11) (ls' := [some (.ref a0), some (.int a1), some (.int a2)]) (st' := [.int a2, .int (gI h1 (gR h1 a0 0) (ix (9 + a1)))]) (h' := h1) rfl ?_
    refine mX_cI (o := mE mtab d 151 [.int a2] h1) (k' := 12) (ls' := [some (.ref a0), some (.int a1), some (.int a2)]) (st' := [.int (gI h1 (gR h1 a0 0) (ix (9 + a1)))]) rfl ?_
    intro x4 h3
    refine mX_to 1 (k' := 13) (ls' := [some (.ref a0), some (.int a1), some (.int a2)]) (st' := [.int ((gI h1 (gR h1 a0 0) (ix (9 + a1))) + x4)]) (h' := h3) rfl ?_
    refine mX_cI (o := mE mtab d 15 [.int ((gI h1 (gR h1 a0 0) (ix (9 + a1))) + x4)] h3) (k' := 14) (ls' := [some (.ref a0), some (.int a1), some (.int a2)]) (st' := []) rfl ?_
    intro x6 h5
    refine mX_br (t := 17) (f := 15) (ls' := [some (.ref a0), some (.int a1), some (.int a2)]) (st' := []) (h' := h5) rfl ?_ ?_
    · refine mX_to 1 (k' := 18) (ls' := [some (.ref a0), some (.int a1), some (.int a2)]) (st' := [.int 0]) (h' := h5) rfl ?_
      exact mX_retb (by decide) rfl
    · refine mX_to 2 (k' := 18) (ls' := [some (.ref a0), some (.int a1), some (.int a2)]) (st' := [.int 1]) (h' := h5) rfl ?_
      exact mX_retb (by decide) rfl
theorem D_X11_move (d : Nat) (h : MH) (a0 : Nat) (a1 : Int32) (a2 : Int32) : mE mtab (d + 1) 153 [.ref a0, .int a1, .int a2] h = ck (kd h a0 = 12) (ck ((kd h (gR h a0 0) = 20 ∨ kd h (gR h a0 0) = 24) ∧ ib (9 + a1) (ln h (gR h a0 0))) (cI (mE mtab d 151 [.int a2] h) (fun x2 h1 => ck (kd h1 (gR h a0 0) = 20 ∧ ib (9 + a1) (ln h1 (gR h a0 0))) (lt_ (sI h1 (gR h a0 0) (ix (9 + a1)) ((gI h (gR h a0 0) (ix (9 + a1))) + x2)) fun h3 => some (.int 0, h3))))) := by
  refine mE_eq (q := (yX11_move, cX11_move, 3, none, KX11_move)) (C := KX11_move) (ls := [some (.ref a0), some (.int a1), some (.int a2)]) rfl rfl rfl rfl ?_
  refine mX_to 1 (k' := 1) (ls' := [some (.ref a0), some (.int a1), some (.int a2)]) (st' := [.ref a0]) (h' := h) rfl ?_
  refine mX_ck (k' := 2) (ls' := [some (.ref a0), some (.int a1), some (.int a2)]) (st' := [.ref (gR h a0 0)]) (h' := h) rfl ?_
  refine mX_to 4 (k' := 6) (ls' := [some (.ref a0), some (.int a1), some (.int a2)]) (st' := [.int (9 + a1), .ref (gR h a0 0), .int (9 + a1), .ref (gR h a0 0)]) (h' := h) rfl ?_
  refine mX_ck (k' := 7) (ls' := [some (.ref a0), some (.int a1), some (.int a2)]) (st' := [.int (gI h (gR h a0 0) (ix (9 + a1))), .int (9 + a1), .ref (gR h a0 0)]) (h' := h) rfl ?_
  refine mX_to 1 (k' := 8) (ls' := [some (.ref a0), some (.int a1), some (.int a2)]) (st' := [.int a2, .int (gI h (gR h a0 0) (ix (9 + a1))), .int (9 + a1), .ref (gR h a0 0)]) (h' := h) rfl ?_
  refine mX_cI (o := mE mtab d 151 [.int a2] h) (k' := 9) (ls' := [some (.ref a0), some (.int a1), some (.int a2)]) (st' := [.int (gI h (gR h a0 0) (ix (9 + a1))), .int (9 + a1), .ref (gR h a0 0)]) rfl ?_
  intro x2 h1
  refine mX_to 1 (k' := 10) (ls' := [some (.ref a0), some (.int a1), some (.int a2)]) (st' := [.int ((gI h (gR h a0 0) (ix (9 + a1))) + x2), .int (9 + a1), .ref (gR h a0 0)]) (h' := h1) rfl ?_
  refine mX_ck (k' := 11) (ls' := [some (.ref a0), some (.int a1), some (.int a2)]) (st' := []) (h' := (sI h1 (gR h a0 0) (ix (9 + a1)) ((gI h (gR h a0 0) (ix (9 + a1))) + x2))) rfl ?_
  refine lt_gen (X := fun h3 : MH => mX (mE mtab d) KX11_move 11 [some (.ref a0), some (.int a1), some (.int a2)] [] h3) fun h3 => ?_
  exact mX_ret rfl
theorem D_X11_everyone (d : Nat) (h : MH) (a0 : Nat) : mE mtab (d + 1) 154 [.ref a0] h = ck (kd h a0 = 12) (ck ((kd h (gR h a0 0) = 20 ∨ kd h (gR h a0 0) = 24) ∧ ib (0 : Int32) (ln h (gR h a0 0))) (some (.int ((1 <<< ((gI h (gR h a0 0) (ix (0 : Int32))) &&& 31)) - 1), h))) := by
  refine mE_eq (q := (yX11_everyone, cX11_everyone, 1, (some .int), KX11_everyone)) (C := KX11_everyone) (ls := [some (.ref a0)]) rfl rfl rfl rfl ?_
  refine mX_to 2 (k' := 2) (ls' := [some (.ref a0)]) (st' := [.ref a0, .int 1]) (h' := h) rfl ?_
  refine mX_ck (k' := 3) (ls' := [some (.ref a0)]) (st' := [.ref (gR h a0 0), .int 1]) (h' := h) rfl ?_
  refine mX_to 1 (k' := 4) (ls' := [some (.ref a0)]) (st' := [.int 0, .ref (gR h a0 0), .int 1]) (h' := h) rfl ?_
  refine mX_ck (k' := 5) (ls' := [some (.ref a0)]) (st' := [.int (gI h (gR h a0 0) (ix (0 : Int32))), .int 1]) (h' := h) rfl ?_
  refine mX_to 3 (k' := 8) (ls' := [some (.ref a0)]) (st' := [.int ((1 <<< ((gI h (gR h a0 0) (ix (0 : Int32))) &&& 31)) - 1)]) (h' := h) rfl ?_
  exact mX_reti rfl
theorem D_X11_tipOf_4 (d : Nat) (h : MH) (l0 : Nat) (l1 : Int32) (l2 : Int32) (l3 : Int32) : mX (mE mtab d) KX11_tipOf 4 [some (.ref l0), some (.int l1), some (.int l2), some (.int l3)] [] h = (if l3 < 9 then ck (kd h l0 = 12) (ck ((kd h (gR h l0 0) = 20 ∨ kd h (gR h l0 0) = 24) ∧ ib (13 + l3) (ln h (gR h l0 0))) (lt_ (l2 + ((gI h (gR h l0 0) (ix (13 + l3))) * (l3 - 4))) fun v1 => mX (mE mtab d) KX11_tipOf 4 [some (.ref l0), some (.int l1), some (.int v1), some (.int (l3 + 1))] [] h)) else mX (mE mtab d) KX11_tipOf 24 [some (.ref l0), some (.int l1), some (.int l2), some (.int 0)] [] h) := by
  refine mX_to 2 (k' := 6) (ls' := [some (.ref l0), some (.int l1), some (.int l2), some (.int l3)]) (st' := [.int 9, .int l3]) (h' := h) rfl ?_
  refine mX_br (t := 7) (f := 22) (ls' := [some (.ref l0), some (.int l1), some (.int l2), some (.int l3)]) (st' := []) (h' := h) rfl ?_ ?_
  · refine mX_to 2 (k' := 9) (ls' := [some (.ref l0), some (.int l1), some (.int l2), some (.int l3)]) (st' := [.ref l0, .int l2]) (h' := h) rfl ?_
    refine mX_ck (k' := 10) (ls' := [some (.ref l0), some (.int l1), some (.int l2), some (.int l3)]) (st' := [.ref (gR h l0 0), .int l2]) (h' := h) rfl ?_
    refine mX_to 3 (k' := 13) (ls' := [some (.ref l0), some (.int l1), some (.int l2), some (.int l3)]) (st' := [.int (13 + l3), .ref (gR h l0 0), .int l2]) (h' := h) rfl ?_
    refine mX_ck (k' := 14) (ls' := [some (.ref l0), some (.int l1), some (.int l2), some (.int l3)]) (st' := [.int (gI h (gR h l0 0) (ix (13 + l3))), .int l2]) (h' := h) rfl ?_
    refine mX_to 5 (k' := 19) (ls' := [some (.ref l0), some (.int l1), some (.int l2), some (.int l3)]) (st' := [.int (l2 + ((gI h (gR h l0 0) (ix (13 + l3))) * (l3 - 4)))]) (h' := h) rfl ?_
    refine lt_gen (X := fun v1 : Int32 => mX (mE mtab d) KX11_tipOf 19 [some (.ref l0), some (.int l1), some (.int l2), some (.int l3)] [.int v1] h) fun v1 => ?_
    refine mX_to 3 (k' := 4) (ls' := [some (.ref l0), some (.int l1), some (.int v1), some (.int (l3 + 1))]) (st' := []) (h' := h) rfl ?_
    rfl
  · refine mX_to 2 (k' := 24) (ls' := [some (.ref l0), some (.int l1), some (.int l2), some (.int 0)]) (st' := []) (h' := h) rfl ?_
    rfl
theorem D_X11_tipOf_24 (d : Nat) (h : MH) (l0 : Nat) (l1 : Int32) (l2 : Int32) (l3 : Int32) : mX (mE mtab d) KX11_tipOf 24 [some (.ref l0), some (.int l1), some (.int l2), some (.int l3)] [] h = ck (kd h l0 = 12) (ck ((kd h (gR h l0 0) = 20 ∨ kd h (gR h l0 0) = 24) ∧ ib (0 : Int32) (ln h (gR h l0 0))) ((if l3 < (gI h (gR h l0 0) (ix (0 : Int32))) then cI (mE mtab d 108 [.int l1, .int l3] h) (fun x4 h3 => (if x4 = 0 then mX (mE mtab d) KX11_tipOf 52 [some (.ref l0), some (.int l1), some (.int l2), some (.int l3)] [.int 0, .int l2] h3 else ck (kd h3 l0 = 12) (ck ((kd h3 (gR h3 l0 0) = 20 ∨ kd h3 (gR h3 l0 0) = 24) ∧ ib (22 + l3) (ln h3 (gR h3 l0 0))) (ck (kd h3 l0 = 12) (ck ((kd h3 (gR h3 l0 0) = 20 ∨ kd h3 (gR h3 l0 0) = 24) ∧ ib (9 + l3) (ln h3 (gR h3 l0 0))) (mX (mE mtab d) KX11_tipOf 52 [some (.ref l0), some (.int l1), some (.int l2), some (.int l3)] [.int ((gI h3 (gR h3 l0 0) (ix (22 + l3))) * ((gI h3 (gR h3 l0 0) (ix (9 + l3))) - 4)), .int l2] h3)))))) else some (.int l2, h)))) := by
  refine mX_to 2 (k' := 26) (ls' := [some (.ref l0), some (.int l1), some (.int l2), some (.int l3)]) (st' := [.ref l0, .int l3]) (h' := h) rfl ?_
  refine mX_ck (k' := 27) (ls' := [some (.ref l0), some (.int l1), some (.int l2), some (.int l3)]) (st' := [.ref (gR h l0 0), .int l3]) (h' := h) rfl ?_
  refine mX_to 1 (k' := 28) (ls' := [some (.ref l0), some (.int l1), some (.int l2), some (.int l3)]) (st' := [.int 0, .ref (gR h l0 0), .int l3]) (h' := h) rfl ?_
  refine mX_ck (k' := 29) (ls' := [some (.ref l0), some (.int l1), some (.int l2), some (.int l3)]) (st' := [.int (gI h (gR h l0 0) (ix (0 : Int32))), .int l3]) (h' := h) rfl ?_
  refine mX_br (t := 30) (f := 56) (ls' := [some (.ref l0), some (.int l1), some (.int l2), some (.int l3)]) (st' := []) (h' := h) rfl ?_ ?_
  · refine mX_to 3 (k' := 33) (ls' := [some (.ref l0), some (.int l1), some (.int l2), some (.int l3)]) (st' := [.int l3, .int l1, .int l2]) (h' := h) rfl ?_
    refine mX_cI (o := mE mtab d 108 [.int l1, .int l3] h) (k' := 34) (ls' := [some (.ref l0), some (.int l1), some (.int l2), some (.int l3)]) (st' := [.int l2]) rfl ?_
    intro x4 h3
    refine mX_br (t := 51) (f := 35) (ls' := [some (.ref l0), some (.int l1), some (.int l2), some (.int l3)]) (st' := [.int l2]) (h' := h3) rfl ?_ ?_
    · refine mX_to 1 (k' := 52) (ls' := [some (.ref l0), some (.int l1), some (.int l2), some (.int l3)]) (st' := [.int 0, .int l2]) (h' := h3) rfl ?_
      rfl
    · refine mX_to 1 (k' := 36) (ls' := [some (.ref l0), some (.int l1), some (.int l2), some (.int l3)]) (st' := [.ref l0, .int l2]) (h' := h3) rfl ?_
      refine mX_ck (k' := 37) (ls' := [some (.ref l0), some (.int l1), some (.int l2), some (.int l3)]) (st' := [.ref (gR h3 l0 0), .int l2]) (h' := h3) rfl ?_
      refine mX_to 3 (k' := 40) (ls' := [some (.ref l0), some (.int l1), some (.int l2), some (.int l3)]) (st' := [.int (22 + l3), .ref (gR h3 l0 0), .int l2]) (h' := h3) rfl ?_
      refine mX_ck (k' := 41) (ls' := [some (.ref l0), some (.int l1), some (.int l2), some (.int l3)]) (st' := [.int (gI h3 (gR h3 l0 0) (ix (22 + l3))), .int l2]) (h' := h3) rfl ?_
      refine mX_to 1 (k' := 42) (ls' := [some (.ref l0), some (.int l1), some (.int l2), some (.int l3)]) (st' := [.ref l0, .int (gI h3 (gR h3 l0 0) (ix (22 + l3))), .int l2]) (h' := h3) rfl ?_
      refine mX_ck (k' := 43) (ls' := [some (.ref l0), some (.int l1), some (.int l2), some (.int l3)]) (st' := [.ref (gR h3 l0 0), .int (gI h3 (gR h3 l0 0) (ix (22 + l3))), .int l2]) (h' := h3) rfl ?_
      refine mX_to 3 (k' := 46) (ls' := [some (.ref l0), some (.int l1), some (.int l2), some (.int l3)]) (st' := [.int (9 + l3), .ref (gR h3 l0 0), .int (gI h3 (gR h3 l0 0) (ix (22 + l3))), .int l2]) (h' := h3) rfl ?_
      refine mX_ck (k' := 47) (ls' := [some (.ref l0), some (.int l1), some (.int l2), some (.int l3)]) (st' := [.int (gI h3 (gR h3 l0 0) (ix (9 + l3))), .int (gI h3 (gR h3 l0 0) (ix (22 + l3))), .int l2]) (h' := h3) rfl ?_
      refine mX_to 4 (k' := 52) (ls' := [some (.ref l0), some (.int l1), some (.int l2), some (.int l3)]) (st' := [.int ((gI h3 (gR h3 l0 0) (ix (22 + l3))) * ((gI h3 (gR h3 l0 0) (ix (9 + l3))) - 4)), .int l2]) (h' := h3) rfl ?_
      rfl
  · refine mX_to 1 (k' := 57) (ls' := [some (.ref l0), some (.int l1), some (.int l2), some (.int l3)]) (st' := [.int l2]) (h' := h) rfl ?_
    exact mX_reti rfl
theorem D_X11_tipOf_52 (d : Nat) (h : MH) (l0 : Nat) (l1 : Int32) (l2 : Int32) (l3 : Int32) (s0 : Int32) (s1 : Int32) : mX (mE mtab d) KX11_tipOf 52 [some (.ref l0), some (.int l1), some (.int l2), some (.int l3)] [.int s0, .int s1] h = lt_ (s1 + s0) fun v5 => mX (mE mtab d) KX11_tipOf 24 [some (.ref l0), some (.int l1), some (.int v5), some (.int (l3 + 1))] [] h := by
  refine mX_to 1 (k' := 53) (ls' := [some (.ref l0), some (.int l1), some (.int l2), some (.int l3)]) (st' := [.int (s1 + s0)]) (h' := h) rfl ?_
  refine lt_gen (X := fun v5 : Int32 => mX (mE mtab d) KX11_tipOf 53 [some (.ref l0), some (.int l1), some (.int l2), some (.int l3)] [.int v5] h) fun v5 => ?_
  refine mX_to 3 (k' := 24) (ls' := [some (.ref l0), some (.int l1), some (.int v5), some (.int (l3 + 1))]) (st' := []) (h' := h) rfl ?_
  rfl
theorem D_X11_tipOf (d : Nat) (h : MH) (a0 : Nat) (a1 : Int32) : mE mtab (d + 1) 155 [.ref a0, .int a1] h = mX (mE mtab d) KX11_tipOf 4 [some (.ref a0), some (.int a1), some (.int 0), some (.int 0)] [] h := by
  refine mE_eq (q := (yX11_tipOf, cX11_tipOf, 4, (some .int), KX11_tipOf)) (C := KX11_tipOf) (ls := [some (.ref a0), some (.int a1), none, none]) rfl rfl rfl rfl ?_
  refine mX_to 4 (k' := 4) (ls' := [some (.ref a0), some (.int a1), some (.int 0), some (.int 0)]) (st' := []) (h' := h) rfl ?_
  rfl
theorem D_X11_tipNow (d : Nat) (h : MH) (a0 : Nat) : mE mtab (d + 1) 156 [.ref a0] h = ck (kd h a0 = 12) (cI (mE mtab d 154 [.ref a0] h) (fun x2 h1 => ck (kd h1 a0 = 12) (cI (mE mtab d 155 [.ref a0, .int x2] h1) (fun x4 h3 => some (.int x4, h3))))) := by
  refine mE_eq (q := (yX11_tipNow, cX11_tipNow, 1, (some .int), KX11_tipNow)) (C := KX11_tipNow) (ls := [some (.ref a0)]) rfl rfl rfl rfl ?_
  refine mX_to 2 (k' := 2) (ls' := [some (.ref a0)]) (st' := [.ref a0, .ref a0]) (h' := h) rfl ?_
  refine mX_ckc (m := mcl (mE mtab d 154 [.ref a0] h) 1 3 [some (.ref a0)] [.ref a0]) rfl ?_
  refine mk_cI ?_
  intro x2 h1
  refine mX_ckc (m := mcl (mE mtab d 155 [.ref a0, .int x2] h1) 1 4 [some (.ref a0)] []) rfl ?_
  refine mk_cI ?_
  intro x4 h3
  exact mX_reti rfl
theorem D_X11_size (d : Nat) (h : MH) (a0 : Int32) : mE mtab (d + 1) 157 [.int a0] h = (if a0 < 0 then some (.int (-a0), h) else some (.int a0, h)) := by
  refine mE_eq (q := (yX11_size, cX11_size, 1, (some .int), KX11_size)) (C := KX11_size) (ls := [some (.int a0)]) rfl rfl rfl rfl ?_
  refine mX_to 1 (k' := 1) (ls' := [some (.int a0)]) (st' := [.int a0]) (h' := h) rfl ?_
  refine mX_br (t := 2) (f := 5) (ls' := [some (.int a0)]) (st' := []) (h' := h) rfl ?_ ?_
  · refine mX_to 3 (k' := 6) (ls' := [some (.int a0)]) (st' := [.int (-a0)]) (h' := h) rfl ?_
    exact mX_reti rfl
  · refine mX_to 1 (k' := 6) (ls' := [some (.int a0)]) (st' := [.int a0]) (h' := h) rfl ?_
    exact mX_reti rfl
theorem D_X11_weightOf_4 (d : Nat) (h : MH) (l0 : Nat) (l1 : Int32) (l2 : Int32) (l3 : Int32) : mX (mE mtab d) KX11_weightOf 4 [some (.ref l0), some (.int l1), some (.int l2), some (.int l3)] [] h = ck (kd h l0 = 12) (ck ((kd h (gR h l0 0) = 20 ∨ kd h (gR h l0 0) = 24) ∧ ib (0 : Int32) (ln h (gR h l0 0))) ((if l3 < (gI h (gR h l0 0) (ix (0 : Int32))) then cI (mE mtab d 108 [.int l1, .int l3] h) (fun x2 h1 => (if x2 = 0 then mX (mE mtab d) KX11_weightOf 23 [some (.ref l0), some (.int l1), some (.int l2), some (.int l3)] [.int 0, .int l2] h1 else ck (kd h1 l0 = 12) (ck ((kd h1 (gR h1 l0 0) = 20 ∨ kd h1 (gR h1 l0 0) = 24) ∧ ib (22 + l3) (ln h1 (gR h1 l0 0))) (mX (mE mtab d) KX11_weightOf 23 [some (.ref l0), some (.int l1), some (.int l2), some (.int l3)] [.int (gI h1 (gR h1 l0 0) (ix (22 + l3))), .int l2] h1)))) else some (.int l2, h)))) := by
  refine mX_to 2 (k' := 6) (ls' := [some (.ref l0), some (.int l1), some (.int l2), some (.int l3)]) (st' := [.ref l0, .int l3]) (h' := h) rfl ?_
  refine mX_ck (k' := 7) (ls' := [some (.ref l0), some (.int l1), some (.int l2), some (.int l3)]) (st' := [.ref (gR h l0 0), .int l3]) (h' := h) rfl ?_
  refine mX_to 1 (k' := 8) (ls' := [some (.ref l0), some (.int l1), some (.int l2), some (.int l3)]) (st' := [.int 0, .ref (gR h l0 0), .int l3]) (h' := h) rfl ?_
  refine mX_ck (k' := 9) (ls' := [some (.ref l0), some (.int l1), some (.int l2), some (.int l3)]) (st' := [.int (gI h (gR h l0 0) (ix (0 : Int32))), .int l3]) (h' := h) rfl ?_
  refine mX_br (t := 10) (f := 27) (ls' := [some (.ref l0), some (.int l1), some (.int l2), some (.int l3)]) (st' := []) (h' := h) rfl ?_ ?_
  · refine mX_to 3 (k' := 13) (ls' := [some (.ref l0), some (.int l1), some (.int l2), some (.int l3)]) (st' := [.int l3, .int l1, .int l2]) (h' := h) rfl ?_
    refine mX_cI (o := mE mtab d 108 [.int l1, .int l3] h) (k' := 14) (ls' := [some (.ref l0), some (.int l1), some (.int l2), some (.int l3)]) (st' := [.int l2]) rfl ?_
    intro x2 h1
    refine mX_br (t := 22) (f := 15) (ls' := [some (.ref l0), some (.int l1), some (.int l2), some (.int l3)]) (st' := [.int l2]) (h' := h1) rfl ?_ ?_
    · refine mX_to 1 (k' := 23) (ls' := [some (.ref l0), some (.int l1), some (.int l2), some (.int l3)]) (st' := [.int 0, .int l2]) (h' := h1) rfl ?_
      rfl
    · refine mX_to 1 (k' := 16) (ls' := [some (.ref l0), some (.int l1), some (.int l2), some (.int l3)]) (st' := [.ref l0, .int l2]) (h' := h1) rfl ?_
      refine mX_ck (k' := 17) (ls' := [some (.ref l0), some (.int l1), some (.int l2), some (.int l3)]) (st' := [.ref (gR h1 l0 0), .int l2]) (h' := h1) rfl ?_
      refine mX_to 3 (k' := 20) (ls' := [some (.ref l0), some (.int l1), some (.int l2), some (.int l3)]) (st' := [.int (22 + l3), .ref (gR h1 l0 0), .int l2]) (h' := h1) rfl ?_
      refine mX_ck (k' := 21) (ls' := [some (.ref l0), some (.int l1), some (.int l2), some (.int l3)]) (st' := [.int (gI h1 (gR h1 l0 0) (ix (22 + l3))), .int l2]) (h' := h1) rfl ?_
      refine mX_to 1 (k' := 23) (ls' := [some (.ref l0), some (.int l1), some (.int l2), some (.int l3)]) (st' := [.int (gI h1 (gR h1 l0 0) (ix (22 + l3))), .int l2]) (h' := h1) rfl ?_
      rfl
  · refine mX_to 1 (k' := 28) (ls' := [some (.ref l0), some (.int l1), some (.int l2), some (.int l3)]) (st' := [.int l2]) (h' := h) rfl ?_
    exact mX_reti rfl
theorem D_X11_weightOf_23 (d : Nat) (h : MH) (l0 : Nat) (l1 : Int32) (l2 : Int32) (l3 : Int32) (s0 : Int32) (s1 : Int32) : mX (mE mtab d) KX11_weightOf 23 [some (.ref l0), some (.int l1), some (.int l2), some (.int l3)] [.int s0, .int s1] h = lt_ (s1 + s0) fun v3 => mX (mE mtab d) KX11_weightOf 4 [some (.ref l0), some (.int l1), some (.int v3), some (.int (l3 + 1))] [] h := by
  refine mX_to 1 (k' := 24) (ls' := [some (.ref l0), some (.int l1), some (.int l2), some (.int l3)]) (st' := [.int (s1 + s0)]) (h' := h) rfl ?_
  refine lt_gen (X := fun v3 : Int32 => mX (mE mtab d) KX11_weightOf 24 [some (.ref l0), some (.int l1), some (.int l2), some (.int l3)] [.int v3] h) fun v3 => ?_
  refine mX_to 3 (k' := 4) (ls' := [some (.ref l0), some (.int l1), some (.int v3), some (.int (l3 + 1))]) (st' := []) (h' := h) rfl ?_
  rfl
theorem D_X11_weightOf (d : Nat) (h : MH) (a0 : Nat) (a1 : Int32) : mE mtab (d + 1) 158 [.ref a0, .int a1] h = mX (mE mtab d) KX11_weightOf 4 [some (.ref a0), some (.int a1), some (.int 0), some (.int 0)] [] h := by
  refine mE_eq (q := (yX11_weightOf, cX11_weightOf, 4, (some .int), KX11_weightOf)) (C := KX11_weightOf) (ls := [some (.ref a0), some (.int a1), none, none]) rfl rfl rfl rfl ?_
  refine mX_to 4 (k' := 4) (ls' := [some (.ref a0), some (.int a1), some (.int 0), some (.int 0)]) (st' := []) (h' := h) rfl ?_
  rfl
theorem D_X11_allSnow_4 (d : Nat) (h : MH) (l0 : Nat) (l1 : Int32) (l2 : Int32) : mX (mE mtab d) KX11_allSnow 4 [some (.ref l0), some (.int l1), some (.int l2)] [] h = (if l2 < 9 then ck (kd h l0 = 12) (ck ((kd h (gR h l0 0) = 20 ∨ kd h (gR h l0 0) = 24) ∧ ib (13 + l2) (ln h (gR h l0 0))) (lt_ (l1 + (gI h (gR h l0 0) (ix (13 + l2)))) fun v1 => mX (mE mtab d) KX11_allSnow 4 [some (.ref l0), some (.int v1), some (.int (l2 + 1))] [] h)) else some (.int l1, h)) := by
  refine mX_to 2 (k' := 6) (ls' := [some (.ref l0), some (.int l1), some (.int l2)]) (st' := [.int 9, .int l2]) (h' := h) rfl ?_
  refine mX_br (t := 7) (f := 18) (ls' := [some (.ref l0), some (.int l1), some (.int l2)]) (st' := []) (h' := h) rfl ?_ ?_
  · refine mX_to 2 (k' := 9) (ls' := [some (.ref l0), some (.int l1), some (.int l2)]) (st' := [.ref l0, .int l1]) (h' := h) rfl ?_
    refine mX_ck (k' := 10) (ls' := [some (.ref l0), some (.int l1), some (.int l2)]) (st' := [.ref (gR h l0 0), .int l1]) (h' := h) rfl ?_
    refine mX_to 3 (k' := 13) (ls' := [some (.ref l0), some (.int l1), some (.int l2)]) (st' := [.int (13 + l2), .ref (gR h l0 0), .int l1]) (h' := h) rfl ?_
    refine mX_ck (k' := 14) (ls' := [some (.ref l0), some (.int l1), some (.int l2)]) (st' := [.int (gI h (gR h l0 0) (ix (13 + l2))), .int l1]) (h' := h) rfl ?_
    refine mX_to 1 (k' := 15) (ls' := [some (.ref l0), some (.int l1), some (.int l2)]) (st' := [.int (l1 + (gI h (gR h l0 0) (ix (13 + l2))))]) (h' := h) rfl ?_
    refine lt_gen (X := fun v1 : Int32 => mX (mE mtab d) KX11_allSnow 15 [some (.ref l0), some (.int l1), some (.int l2)] [.int v1] h) fun v1 => ?_
    refine mX_to 3 (k' := 4) (ls' := [some (.ref l0), some (.int v1), some (.int (l2 + 1))]) (st' := []) (h' := h) rfl ?_
    rfl
  · refine mX_to 1 (k' := 19) (ls' := [some (.ref l0), some (.int l1), some (.int l2)]) (st' := [.int l1]) (h' := h) rfl ?_
    exact mX_reti rfl
theorem D_X11_allSnow (d : Nat) (h : MH) (a0 : Nat) : mE mtab (d + 1) 159 [.ref a0] h = mX (mE mtab d) KX11_allSnow 4 [some (.ref a0), some (.int 0), some (.int 0)] [] h := by
  refine mE_eq (q := (yX11_allSnow, cX11_allSnow, 3, (some .int), KX11_allSnow)) (C := KX11_allSnow) (ls := [some (.ref a0), none, none]) rfl rfl rfl rfl ?_
  refine mX_to 4 (k' := 4) (ls' := [some (.ref a0), some (.int 0), some (.int 0)]) (st' := []) (h' := h) rfl ?_
  rfl
theorem D_X11_name (d : Nat) (h : MH) (a0 : Nat) : mE mtab (d + 1) 160 [.ref a0] h = ck (kd h a0 = 12) (ck (kd h a0 = 12) (ck ((kd h (gR h a0 0) = 20 ∨ kd h (gR h a0 0) = 24) ∧ ib (6 : Int32) (ln h (gR h a0 0))) (ck (kd h (gR h a0 20) = 20 ∧ ib (0 : Int32) (ln h (gR h a0 20))) (lt_ (sI h (gR h a0 20) (ix (0 : Int32)) (gI h (gR h a0 0) (ix (6 : Int32)))) fun h1 => ck (kd h1 a0 = 12) (ck (kd h1 a0 = 12) (cI (mE mtab d 156 [.ref a0] h1) (fun x3 h2 => ck (kd h2 (gR h1 a0 20) = 20 ∧ ib (1 : Int32) (ln h2 (gR h1 a0 20))) (lt_ (sI h2 (gR h1 a0 20) (ix (1 : Int32)) x3) fun h4 => ck (kd h4 a0 = 12) (ck (kd h4 a0 = 12) (cI (mE mtab d 154 [.ref a0] h4) (fun x6 h5 => ck (kd h5 a0 = 12) (cI (mE mtab d 158 [.ref a0, .int x6] h5) (fun x8 h7 => ck (kd h7 a0 = 12) (cI (mE mtab d 159 [.ref a0] h7) (fun x10 h9 => ck (kd h9 (gR h4 a0 20) = 20 ∧ ib (2 : Int32) (ln h9 (gR h4 a0 20))) (lt_ (sI h9 (gR h4 a0 20) (ix (2 : Int32)) (x8 + x10)) fun h11 => ck (kd h11 a0 = 12) (ck (kd h11 a0 = 12) (cI (mE mtab d 159 [.ref a0] h11) (fun x13 h12 => ck (kd h12 (gR h11 a0 20) = 20 ∧ ib (3 : Int32) (ln h12 (gR h11 a0 20))) (lt_ (sI h12 (gR h11 a0 20) (ix (3 : Int32)) x13) fun h14 => some (.int 0, h14))))))))))))))))))))) := by
  refine mE_eq (q := (yX11_name, cX11_name, 1, none, KX11_name)) (C := KX11_name) (ls := [some (.ref a0)]) rfl rfl rfl rfl ?_
  refine mX_to 1 (k' := 1) (ls' := [some (.ref a0)]) (st' := [.ref a0]) (h' := h) rfl ?_
  refine mX_ck (k' := 2) (ls' := [some (.ref a0)]) (st' := [.ref (gR h a0 20)]) (h' := h) rfl ?_
  refine mX_to 2 (k' := 4) (ls' := [some (.ref a0)]) (st' := [.ref a0, .int 0, .ref (gR h a0 20)]) (h' := h) rfl ?_
  refine mX_ck (k' := 5) (ls' := [some (.ref a0)]) (st' := [.ref (gR h a0 0), .int 0, .ref (gR h a0 20)]) (h' := h) rfl ?_
  refine mX_to 1 (k' := 6) (ls' := [some (.ref a0)]) (st' := [.int 6, .ref (gR h a0 0), .int 0, .ref (gR h a0 20)]) (h' := h) rfl ?_
  refine mX_ck (k' := 7) (ls' := [some (.ref a0)]) (st' := [.int (gI h (gR h a0 0) (ix (6 : Int32))), .int 0, .ref (gR h a0 20)]) (h' := h) rfl ?_
  refine mX_ck (k' := 8) (ls' := [some (.ref a0)]) (st' := []) (h' := (sI h (gR h a0 20) (ix (0 : Int32)) (gI h (gR h a0 0) (ix (6 : Int32))))) rfl ?_
  refine lt_gen (X := fun h1 : MH => mX (mE mtab d) KX11_name 8 [some (.ref a0)] [] h1) fun h1 => ?_
  refine mX_to 1 (k' := 9) (ls' := [some (.ref a0)]) (st' := [.ref a0]) (h' := h1) rfl ?_
  refine mX_ck (k' := 10) (ls' := [some (.ref a0)]) (st' := [.ref (gR h1 a0 20)]) (h' := h1) rfl ?_
  refine mX_to 2 (k' := 12) (ls' := [some (.ref a0)]) (st' := [.ref a0, .int 1, .ref (gR h1 a0 20)]) (h' := h1) rfl ?_
  refine mX_ckc (m := mcl (mE mtab d 156 [.ref a0] h1) 1 13 [some (.ref a0)] [.int 1, .ref (gR h1 a0 20)]) rfl ?_
  refine mk_cI ?_
  intro x3 h2
  refine mX_ck (k' := 14) (ls' := [some (.ref a0)]) (st' := []) (h' := (sI h2 (gR h1 a0 20) (ix (1 : Int32)) x3)) rfl ?_
  refine lt_gen (X := fun h4 : MH => mX (mE mtab d) KX11_name 14 [some (.ref a0)] [] h4) fun h4 => ?_
  refine mX_to 1 (k' := 15) (ls' := [some (.ref a0)]) (st' := [.ref a0]) (h' := h4) rfl ?_
  refine mX_ck (k' := 16) (ls' := [some (.ref a0)]) (st' := [.ref (gR h4 a0 20)]) (h' := h4) rfl ?_
  refine mX_to 3 (k' := 19) (ls' := [some (.ref a0)]) (st' := [.ref a0, .ref a0, .int 2, .ref (gR h4 a0 20)]) (h' := h4) rfl ?_
  refine mX_ckc (m := mcl (mE mtab d 154 [.ref a0] h4) 1 20 [some (.ref a0)] [.ref a0, .int 2, .ref (gR h4 a0 20)]) rfl ?_
  refine mk_cI ?_
  intro x6 h5
  refine mX_ckc (m := mcl (mE mtab d 158 [.ref a0, .int x6] h5) 1 21 [some (.ref a0)] [.int 2, .ref (gR h4 a0 20)]) rfl ?_
  refine mk_cI ?_
  intro x8 h7
  refine mX_to 1 (k' := 22) (ls' := [some (.ref a0)]) (st' := [.ref a0, .int x8, .int 2, .ref (gR h4 a0 20)]) (h' := h7) rfl ?_
  refine mX_ckc (m := mcl (mE mtab d 159 [.ref a0] h7) 1 23 [some (.ref a0)] [.int x8, .int 2, .ref (gR h4 a0 20)]) rfl ?_
  refine mk_cI ?_
  intro x10 h9
  refine mX_to 1 (k' := 24) (ls' := [some (.ref a0)]) (st' := [.int (x8 + x10), .int 2, .ref (gR h4 a0 20)]) (h' := h9) rfl ?_
  refine mX_ck (k' := 25) (ls' := [some (.ref a0)]) (st' := []) (h' := (sI h9 (gR h4 a0 20) (ix (2 : Int32)) (x8 + x10))) rfl ?_
  refine lt_gen (X := fun h11 : MH => mX (mE mtab d) KX11_name 25 [some (.ref a0)] [] h11) fun h11 => ?_
  refine mX_to 1 (k' := 26) (ls' := [some (.ref a0)]) (st' := [.ref a0]) (h' := h11) rfl ?_
  refine mX_ck (k' := 27) (ls' := [some (.ref a0)]) (st' := [.ref (gR h11 a0 20)]) (h' := h11) rfl ?_
  refine mX_to 2 (k' := 29) (ls' := [some (.ref a0)]) (st' := [.ref a0, .int 3, .ref (gR h11 a0 20)]) (h' := h11) rfl ?_
  refine mX_ckc (m := mcl (mE mtab d 159 [.ref a0] h11) 1 30 [some (.ref a0)] [.int 3, .ref (gR h11 a0 20)]) rfl ?_
  refine mk_cI ?_
  intro x13 h12
  refine mX_ck (k' := 31) (ls' := [some (.ref a0)]) (st' := []) (h' := (sI h12 (gR h11 a0 20) (ix (3 : Int32)) x13)) rfl ?_
  refine lt_gen (X := fun h14 : MH => mX (mE mtab d) KX11_name 31 [some (.ref a0)] [] h14) fun h14 => ?_
  exact mX_ret rfl
