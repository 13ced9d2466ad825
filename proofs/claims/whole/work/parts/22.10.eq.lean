--deps:19.lay 21.facts 22.00.names
/-! EQUATIONS over the fixed cells (written by wip/gen/sgen.py) -/
theorem S_X11_joined {h : MH} (L : lay h) (d : Nat) (a0 : Int32) (a1 : Int32) (a2 : Int32) : F_X11_joined (d + 1) a0 a1 a2 h = (if a0 = 21 then (if a1 = 0 then some (.int 0, h) else (if a2 = 0 then some (.int 0, h) else some (.int 1, h))) else (if a1 = 0 then (if a2 = 0 then some (.int 0, h) else some (.int 1, h)) else some (.int 1, h))) := by
  refine mE_eq (q := (yX11_joined, cX11_joined, 3, (some .boolean), KX11_joined)) (C := KX11_joined) (ls := [some (.int a0), some (.int a1), some (.int a2)]) rfl rfl rfl rfl ?_
  refine mX_to 2 (k' := 2) (ls' := [some (.int a0), some (.int a1), some (.int a2)]) (st' := [.int 21, .int a0]) (h' := h) rfl ?_
  refine mX_br (t := 3) (f := 11) (ls' := [some (.int a0), some (.int a1), some (.int a2)]) (st' := []) (h' := h) rfl ?_ ?_
  · refine mX_to 1 (k' := 4) (ls' := [some (.int a0), some (.int a1), some (.int a2)]) (st' := [.int a1]) (h' := h) rfl ?_
    refine mX_br (t := 9) (f := 5) (ls' := [some (.int a0), some (.int a1), some (.int a2)]) (st' := []) (h' := h) rfl ?_ ?_
    · refine mX_to 2 (k' := 18) (ls' := [some (.int a0), some (.int a1), some (.int a2)]) (st' := [.int 0]) (h' := h) rfl ?_
      exact mX_retb (by decide) rfl
    · refine mX_to 1 (k' := 6) (ls' := [some (.int a0), some (.int a1), some (.int a2)]) (st' := [.int a2]) (h' := h) rfl ?_
      refine mX_br (t := 9) (f := 7) (ls' := [some (.int a0), some (.int a1), some (.int a2)]) (st' := []) (h' := h) rfl ?_ ?_
      · refine mX_to 2 (k' := 18) (ls' := [some (.int a0), some (.int a1), some (.int a2)]) (st' := [.int 0]) (h' := h) rfl ?_
        exact mX_retb (by decide) rfl
      · refine mX_to 2 (k' := 18) (ls' := [some (.int a0), some (.int a1), some (.int a2)]) (st' := [.int 1]) (h' := h) rfl ?_
        exact mX_retb (by decide) rfl
  · refine mX_to 1 (k' := 12) (ls' := [some (.int a0), some (.int a1), some (.int a2)]) (st' := [.int a1]) (h' := h) rfl ?_
    refine mX_br (t := 13) (f := 15) (ls' := [some (.int a0), some (.int a1), some (.int a2)]) (st' := []) (h' := h) rfl ?_ ?_
    · refine mX_to 1 (k' := 14) (ls' := [some (.int a0), some (.int a1), some (.int a2)]) (st' := [.int a2]) (h' := h) rfl ?_
      refine mX_br (t := 17) (f := 15) (ls' := [some (.int a0), some (.int a1), some (.int a2)]) (st' := []) (h' := h) rfl ?_ ?_
      · refine mX_to 1 (k' := 18) (ls' := [some (.int a0), some (.int a1), some (.int a2)]) (st' := [.int 0]) (h' := h) rfl ?_
        exact mX_retb (by decide) rfl
      · refine mX_to 2 (k' := 18) (ls' := [some (.int a0), some (.int a1), some (.int a2)]) (st' := [.int 1]) (h' := h) rfl ?_
        exact mX_retb (by decide) rfl
    · refine mX_to 2 (k' := 18) (ls' := [some (.int a0), some (.int a1), some (.int a2)]) (st' := [.int 1]) (h' := h) rfl ?_
      exact mX_retb (by decide) rfl
theorem S_X11_summedUp_27 {h : MH} (L : lay h) (d : Nat) (l1 : Int32) (l2 : Int32) (l3 : Int32) (l4 : Int32) (l5 : Int32) (l6 : Int32) (l7 : Int32) (o8 : Option Value) (o9 : Option Value) : G_X11_summedUp_27 d l1 l2 l3 l4 l5 l6 l7 o8 o9 h = ck (ib (l3 + 2) 2724) ((if l7 < (gI h 70 (ix (l3 + 2))) then ck (ib (l4 + (2 * l7)) 2724) (lt_ (gI h 70 (ix (l4 + (2 * l7)))) fun v5 => ck (ib ((l4 + (2 * l7)) + 1) 2724) (lt_ (gI h 70 (ix ((l4 + (2 * l7)) + 1))) fun v6 => (if v5 ≤ 1 then (if v5 = 0 then G_X11_summedUp_71 d l1 l2 l3 l4 l5 l6 l7 v5 v6 ((v6 : Int32).toInt64) l5 h else ck (ib v6 7) (G_X11_summedUp_71 d l1 l2 l3 l4 l5 l6 l7 v5 v6 (((gI h 73 (ix v6)) : Int32).toInt64) l5 h)) else (if v5 = 3 then ck (ib (l6 + (-1)) 330) ((if (gI h 75 (ix (l6 + (-1)))) = 0 then ck (ib (l5 + (-1)) 330) (ck (ib ((l5 + (-1)) - 1) 330) (lt_ (sL h 74 (ix ((l5 + (-1)) - 1)) (gL h 74 (ix (l5 + (-1))))) fun h9 => G_X11_summedUp_198 d l1 l2 l3 l4 (l5 + (-1)) (l6 + (-1)) l7 v5 v6 h9)) else G_X11_summedUp_198 d l1 l2 l3 l4 (l5 + (-1)) (l6 + (-1)) l7 v5 v6 h)) else (if v5 ≤ 5 then ck (ib (l5 - 1) 330) (cL (F_X11_ofOne d v5 (gL h 74 (ix (l5 - 1))) h) (fun x13 h12 => ck (ib (l5 - 1) 330) (lt_ (sL h12 74 (ix (l5 - 1)) x13) fun h15 => G_X11_summedUp_198 d l1 l2 l3 l4 l5 l6 l7 v5 v6 h15))) else (if v5 < 10 then ck (ib ((l5 + (-1)) - 1) 330) (ck (ib (l5 + (-1)) 330) (cL (F_X11_two d v5 (gL h 74 (ix ((l5 + (-1)) - 1))) (gL h 74 (ix (l5 + (-1)))) h) (fun x18 h17 => ck (ib ((l5 + (-1)) - 1) 330) (lt_ (sL h17 74 (ix ((l5 + (-1)) - 1)) x18) fun h20 => G_X11_summedUp_198 d l1 l2 l3 l4 (l5 + (-1)) l6 l7 v5 v6 h20)))) else (if v5 < 20 then ck (ib (l5 + (-2)) 330) (ck (ib ((l5 + (-2)) + 1) 330) (cI (F_X11_isAsked d v5 (gL h 74 (ix (l5 + (-2)))) (gL h 74 (ix ((l5 + (-2)) + 1))) h) (fun x24 h23 => ck (ib l6 330 ∧ (x24 = 0 ∨ x24 = 1)) (lt_ (sI h23 75 (ix l6) x24) fun h26 => G_X11_summedUp_198 d l1 l2 l3 l4 (l5 + (-2)) (l6 + 1) l7 v5 v6 h26)))) else (if v5 = 20 then ck (ib (l6 - 1) 330) ((if (gI h 75 (ix (l6 - 1))) = 0 then G_X11_summedUp_177 d l1 l2 l3 l4 l5 l6 l7 v5 v6 1 (l6 - 1) h else G_X11_summedUp_177 d l1 l2 l3 l4 l5 l6 l7 v5 v6 0 (l6 - 1) h)) else ck (ib ((l6 + (-1)) - 1) 330) (ck (ib (l6 + (-1)) 330) (cI (F_X11_joined d v5 (gI h 75 (ix ((l6 + (-1)) - 1))) (gI h 75 (ix (l6 + (-1)))) h) (fun x31 h30 => ck (ib ((l6 + (-1)) - 1) 330 ∧ (x31 = 0 ∨ x31 = 1)) (lt_ (sI h30 75 (ix ((l6 + (-1)) - 1)) x31) fun h33 => G_X11_summedUp_198 d l1 l2 l3 l4 l5 (l6 + (-1)) l7 v5 v6 h33)))))))))))) else some (.long (gL h 74 0), h))) := by
  refine mX_to 2 (k' := 29) (ls' := [some (.ref 67), some (.int l1), some (.int l2), some (.int l3), some (.int l4), some (.int l5), some (.int l6), some (.int l7), o8, o9]) (st' := [.ref 67, .int l7]) (h' := h) rfl ?_
  refine mX_ckv (v := .ref (gR h 67 2)) (v' := .ref 70) (k' := 30) (ls' := [some (.ref 67), some (.int l1), some (.int l2), some (.int l3), some (.int l4), some (.int l5), some (.int l6), some (.int l7), o8, o9]) (st' := [.int l7]) (h' := h) (k_67 L) (congrArg Value.ref (r_67_2 L)) rfl ?_
  refine mX_to 3 (k' := 33) (ls' := [some (.ref 67), some (.int l1), some (.int l2), some (.int l3), some (.int l4), some (.int l5), some (.int l6), some (.int l7), o8, o9]) (st' := [.int (l3 + 2), .ref 70, .int l7]) (h' := h) rfl ?_
  refine mX_ckw (v := .int (gI h 70 (ix (l3 + 2)))) (v' := .int (gI h 70 (ix (l3 + 2)))) (k' := 34) (ls' := [some (.ref 67), some (.int l1), some (.int l2), some (.int l3), some (.int l4), some (.int l5), some (.int l6), some (.int l7), o8, o9]) (st' := [.int l7]) (h' := h) (ckA1 (k_70 L) (n_70 L)) rfl rfl fun c38 => ?_
  refine mX_br (t := 35) (f := 200) (ls' := [some (.ref 67), some (.int l1), some (.int l2), some (.int l3), some (.int l4), some (.int l5), some (.int l6), some (.int l7), o8, o9]) (st' := []) (h' := h) rfl ?_ ?_
  · refine mX_to 1 (k' := 36) (ls' := [some (.ref 67), some (.int l1), some (.int l2), some (.int l3), some (.int l4), some (.int l5), some (.int l6), some (.int l7), o8, o9]) (st' := [.ref 67]) (h' := h) rfl ?_
    refine mX_ckv (v := .ref (gR h 67 2)) (v' := .ref 70) (k' := 37) (ls' := [some (.ref 67), some (.int l1), some (.int l2), some (.int l3), some (.int l4), some (.int l5), some (.int l6), some (.int l7), o8, o9]) (st' := []) (h' := h) (k_67 L) (congrArg Value.ref (r_67_2 L)) rfl ?_
    refine mX_to 5 (k' := 42) (ls' := [some (.ref 67), some (.int l1), some (.int l2), some (.int l3), some (.int l4), some (.int l5), some (.int l6), some (.int l7), o8, o9]) (st' := [.int (l4 + (2 * l7)), .ref 70]) (h' := h) rfl ?_
    refine mX_ckw (v := .int (gI h 70 (ix (l4 + (2 * l7))))) (v' := .int (gI h 70 (ix (l4 + (2 * l7))))) (k' := 43) (ls' := [some (.ref 67), some (.int l1), some (.int l2), some (.int l3), some (.int l4), some (.int l5), some (.int l6), some (.int l7), o8, o9]) (st' := []) (h' := h) (ckA1 (k_70 L) (n_70 L)) rfl rfl fun c37 => ?_
    refine lt_gen (X := fun v5 : Int32 => mX (mE mtab d) KX11_summedUp 43 [some (.ref 67), some (.int l1), some (.int l2), some (.int l3), some (.int l4), some (.int l5), some (.int l6), some (.int l7), o8, o9] [.int v5] h) fun v5 => ?_
    refine mX_to 2 (k' := 45) (ls' := [some (.ref 67), some (.int l1), some (.int l2), some (.int l3), some (.int l4), some (.int l5), some (.int l6), some (.int l7), some (.int v5), o9]) (st' := [.ref 67]) (h' := h) rfl ?_
    refine mX_ckv (v := .ref (gR h 67 2)) (v' := .ref 70) (k' := 46) (ls' := [some (.ref 67), some (.int l1), some (.int l2), some (.int l3), some (.int l4), some (.int l5), some (.int l6), some (.int l7), some (.int v5), o9]) (st' := []) (h' := h) (k_67 L) (congrArg Value.ref (r_67_2 L)) rfl ?_
    refine mX_to 7 (k' := 53) (ls' := [some (.ref 67), some (.int l1), some (.int l2), some (.int l3), some (.int l4), some (.int l5), some (.int l6), some (.int l7), some (.int v5), o9]) (st' := [.int ((l4 + (2 * l7)) + 1), .ref 70]) (h' := h) rfl ?_
    refine mX_ckw (v := .int (gI h 70 (ix ((l4 + (2 * l7)) + 1)))) (v' := .int (gI h 70 (ix ((l4 + (2 * l7)) + 1)))) (k' := 54) (ls' := [some (.ref 67), some (.int l1), some (.int l2), some (.int l3), some (.int l4), some (.int l5), some (.int l6), some (.int l7), some (.int v5), o9]) (st' := []) (h' := h) (ckA1 (k_70 L) (n_70 L)) rfl rfl fun c36 => ?_
    refine lt_gen (X := fun v6 : Int32 => mX (mE mtab d) KX11_summedUp 54 [some (.ref 67), some (.int l1), some (.int l2), some (.int l3), some (.int l4), some (.int l5), some (.int l6), some (.int l7), some (.int v5), o9] [.int v6] h) fun v6 => ?_
    refine mX_to 3 (k' := 57) (ls' := [some (.ref 67), some (.int l1), some (.int l2), some (.int l3), some (.int l4), some (.int l5), some (.int l6), some (.int l7), some (.int v5), some (.int v6)]) (st' := [.int 1, .int v5]) (h' := h) rfl ?_
    refine mX_br (t := 58) (f := 74) (ls' := [some (.ref 67), some (.int l1), some (.int l2), some (.int l3), some (.int l4), some (.int l5), some (.int l6), some (.int l7), some (.int v5), some (.int v6)]) (st' := []) (h' := h) rfl ?_ ?_
    · refine mX_to 1 (k' := 59) (ls' := [some (.ref 67), some (.int l1), some (.int l2), some (.int l3), some (.int l4), some (.int l5), some (.int l6), some (.int l7), some (.int v5), some (.int v6)]) (st' := [.ref 67]) (h' := h) rfl ?_
      refine mX_ckv (v := .ref (gR h 67 21)) (v' := .ref 74) (k' := 60) (ls' := [some (.ref 67), some (.int l1), some (.int l2), some (.int l3), some (.int l4), some (.int l5), some (.int l6), some (.int l7), some (.int v5), some (.int v6)]) (st' := []) (h' := h) (k_67 L) (congrArg Value.ref (r_67_21 L)) rfl ?_
      refine mX_to 2 (k' := 62) (ls' := [some (.ref 67), some (.int l1), some (.int l2), some (.int l3), some (.int l4), some (.int l5), some (.int l6), some (.int l7), some (.int v5), some (.int v6)]) (st' := [.int v5, .int l5, .ref 74]) (h' := h) rfl ?_
      refine mX_br (t := 63) (f := 66) (ls' := [some (.ref 67), some (.int l1), some (.int l2), some (.int l3), some (.int l4), some (.int l5), some (.int l6), some (.int l7), some (.int v5), some (.int v6)]) (st' := [.int l5, .ref 74]) (h' := h) rfl ?_ ?_
      · refine mX_to 3 (k' := 71) (ls' := [some (.ref 67), some (.int l1), some (.int l2), some (.int l3), some (.int l4), some (.int l5), some (.int l6), some (.int l7), some (.int v5), some (.int v6)]) (st' := [.long ((v6 : Int32).toInt64), .int l5, .ref 74]) (h' := h) rfl ?_
        rfl
      · refine mX_to 1 (k' := 67) (ls' := [some (.ref 67), some (.int l1), some (.int l2), some (.int l3), some (.int l4), some (.int l5), some (.int l6), some (.int l7), some (.int v5), some (.int v6)]) (st' := [.ref 67, .int l5, .ref 74]) (h' := h) rfl ?_
        refine mX_ckv (v := .ref (gR h 67 20)) (v' := .ref 73) (k' := 68) (ls' := [some (.ref 67), some (.int l1), some (.int l2), some (.int l3), some (.int l4), some (.int l5), some (.int l6), some (.int l7), some (.int v5), some (.int v6)]) (st' := [.int l5, .ref 74]) (h' := h) (k_67 L) (congrArg Value.ref (r_67_20 L)) rfl ?_
        refine mX_to 1 (k' := 69) (ls' := [some (.ref 67), some (.int l1), some (.int l2), some (.int l3), some (.int l4), some (.int l5), some (.int l6), some (.int l7), some (.int v5), some (.int v6)]) (st' := [.int v6, .ref 73, .int l5, .ref 74]) (h' := h) rfl ?_
        refine mX_ckw (v := .int (gI h 73 (ix v6))) (v' := .int (gI h 73 (ix v6))) (k' := 70) (ls' := [some (.ref 67), some (.int l1), some (.int l2), some (.int l3), some (.int l4), some (.int l5), some (.int l6), some (.int l7), some (.int v5), some (.int v6)]) (st' := [.int l5, .ref 74]) (h' := h) (ckA1 (k_73 L) (n_73 L)) rfl rfl fun c7 => ?_
        refine mX_to 1 (k' := 71) (ls' := [some (.ref 67), some (.int l1), some (.int l2), some (.int l3), some (.int l4), some (.int l5), some (.int l6), some (.int l7), some (.int v5), some (.int v6)]) (st' := [.long (((gI h 73 (ix v6)) : Int32).toInt64), .int l5, .ref 74]) (h' := h) rfl ?_
        rfl
    · refine mX_to 2 (k' := 76) (ls' := [some (.ref 67), some (.int l1), some (.int l2), some (.int l3), some (.int l4), some (.int l5), some (.int l6), some (.int l7), some (.int v5), some (.int v6)]) (st' := [.int 3, .int v5]) (h' := h) rfl ?_
      refine mX_br (t := 77) (f := 95) (ls' := [some (.ref 67), some (.int l1), some (.int l2), some (.int l3), some (.int l4), some (.int l5), some (.int l6), some (.int l7), some (.int v5), some (.int v6)]) (st' := []) (h' := h) rfl ?_ ?_
      · refine mX_to 3 (k' := 80) (ls' := [some (.ref 67), some (.int l1), some (.int l2), some (.int l3), some (.int l4), some (.int (l5 + (-1))), some (.int (l6 + (-1))), some (.int l7), some (.int v5), some (.int v6)]) (st' := [.ref 67]) (h' := h) rfl ?_
        refine mX_ckv (v := .ref (gR h 67 22)) (v' := .ref 75) (k' := 81) (ls' := [some (.ref 67), some (.int l1), some (.int l2), some (.int l3), some (.int l4), some (.int (l5 + (-1))), some (.int (l6 + (-1))), some (.int l7), some (.int v5), some (.int v6)]) (st' := []) (h' := h) (k_67 L) (congrArg Value.ref (r_67_22 L)) rfl ?_
        refine mX_to 1 (k' := 82) (ls' := [some (.ref 67), some (.int l1), some (.int l2), some (.int l3), some (.int l4), some (.int (l5 + (-1))), some (.int (l6 + (-1))), some (.int l7), some (.int v5), some (.int v6)]) (st' := [.int (l6 + (-1)), .ref 75]) (h' := h) rfl ?_
        refine mX_ckw (v := .int (gI h 75 (ix (l6 + (-1))))) (v' := .int (gI h 75 (ix (l6 + (-1))))) (k' := 83) (ls' := [some (.ref 67), some (.int l1), some (.int l2), some (.int l3), some (.int l4), some (.int (l5 + (-1))), some (.int (l6 + (-1))), some (.int l7), some (.int v5), some (.int v6)]) (st' := []) (h' := h) (ckA1 (k_75 L) (n_75 L)) rfl rfl fun c11 => ?_
        refine mX_br (t := 84) (f := 198) (ls' := [some (.ref 67), some (.int l1), some (.int l2), some (.int l3), some (.int l4), some (.int (l5 + (-1))), some (.int (l6 + (-1))), some (.int l7), some (.int v5), some (.int v6)]) (st' := []) (h' := h) rfl ?_ ?_
        · refine mX_to 1 (k' := 85) (ls' := [some (.ref 67), some (.int l1), some (.int l2), some (.int l3), some (.int l4), some (.int (l5 + (-1))), some (.int (l6 + (-1))), some (.int l7), some (.int v5), some (.int v6)]) (st' := [.ref 67]) (h' := h) rfl ?_
          refine mX_ckv (v := .ref (gR h 67 21)) (v' := .ref 74) (k' := 86) (ls' := [some (.ref 67), some (.int l1), some (.int l2), some (.int l3), some (.int l4), some (.int (l5 + (-1))), some (.int (l6 + (-1))), some (.int l7), some (.int v5), some (.int v6)]) (st' := []) (h' := h) (k_67 L) (congrArg Value.ref (r_67_21 L)) rfl ?_
          refine mX_to 4 (k' := 90) (ls' := [some (.ref 67), some (.int l1), some (.int l2), some (.int l3), some (.int l4), some (.int (l5 + (-1))), some (.int (l6 + (-1))), some (.int l7), some (.int v5), some (.int v6)]) (st' := [.ref 67, .int ((l5 + (-1)) - 1), .ref 74]) (h' := h) rfl ?_
          refine mX_ckv (v := .ref (gR h 67 21)) (v' := .ref 74) (k' := 91) (ls' := [some (.ref 67), some (.int l1), some (.int l2), some (.int l3), some (.int l4), some (.int (l5 + (-1))), some (.int (l6 + (-1))), some (.int l7), some (.int v5), some (.int v6)]) (st' := [.int ((l5 + (-1)) - 1), .ref 74]) (h' := h) (k_67 L) (congrArg Value.ref (r_67_21 L)) rfl ?_
          refine mX_to 1 (k' := 92) (ls' := [some (.ref 67), some (.int l1), some (.int l2), some (.int l3), some (.int l4), some (.int (l5 + (-1))), some (.int (l6 + (-1))), some (.int l7), some (.int v5), some (.int v6)]) (st' := [.int (l5 + (-1)), .ref 74, .int ((l5 + (-1)) - 1), .ref 74]) (h' := h) rfl ?_
          refine mX_ckw (v := .long (gL h 74 (ix (l5 + (-1))))) (v' := .long (gL h 74 (ix (l5 + (-1))))) (k' := 93) (ls' := [some (.ref 67), some (.int l1), some (.int l2), some (.int l3), some (.int l4), some (.int (l5 + (-1))), some (.int (l6 + (-1))), some (.int l7), some (.int v5), some (.int v6)]) (st' := [.int ((l5 + (-1)) - 1), .ref 74]) (h' := h) (ckA0 (k_74 L) (n_74 L)) rfl rfl fun c10 => ?_
          refine mX_cki (k' := 94) (ls' := [some (.ref 67), some (.int l1), some (.int l2), some (.int l3), some (.int l4), some (.int (l5 + (-1))), some (.int (l6 + (-1))), some (.int l7), some (.int v5), some (.int v6)]) (st' := []) (h' := (sL h 74 (ix ((l5 + (-1)) - 1)) (gL h 74 (ix (l5 + (-1)))))) (ckA0 (k_74 L) (n_74 L)) rfl fun c8 => ?_
          refine lt_geq2 (X := fun h9 : MH => mX (mE mtab d) KX11_summedUp 94 [some (.ref 67), some (.int l1), some (.int l2), some (.int l3), some (.int l4), some (.int (l5 + (-1))), some (.int (l6 + (-1))), some (.int l7), some (.int v5), some (.int v6)] [] h9) (a := (sL h 74 (ix ((l5 + (-1)) - 1)) (gL h 74 (ix (l5 + (-1)))))) (a' := (sL h 74 (ix ((l5 + (-1)) - 1)) (gL h 74 (ix (l5 + (-1)))))) rfl fun h9 eh9 => ?_
          have L9 : lay h9 := eh9 ▸ layL L
          refine mX_to 1 (k' := 198) (ls' := [some (.ref 67), some (.int l1), some (.int l2), some (.int l3), some (.int l4), some (.int (l5 + (-1))), some (.int (l6 + (-1))), some (.int l7), some (.int v5), some (.int v6)]) (st' := []) (h' := h9) rfl ?_
          rfl
        · rfl
      · refine mX_to 2 (k' := 97) (ls' := [some (.ref 67), some (.int l1), some (.int l2), some (.int l3), some (.int l4), some (.int l5), some (.int l6), some (.int l7), some (.int v5), some (.int v6)]) (st' := [.int 5, .int v5]) (h' := h) rfl ?_
        refine mX_br (t := 98) (f := 114) (ls' := [some (.ref 67), some (.int l1), some (.int l2), some (.int l3), some (.int l4), some (.int l5), some (.int l6), some (.int l7), some (.int v5), some (.int v6)]) (st' := []) (h' := h) rfl ?_ ?_
        · refine mX_to 1 (k' := 99) (ls' := [some (.ref 67), some (.int l1), some (.int l2), some (.int l3), some (.int l4), some (.int l5), some (.int l6), some (.int l7), some (.int v5), some (.int v6)]) (st' := [.ref 67]) (h' := h) rfl ?_
          refine mX_ckv (v := .ref (gR h 67 21)) (v' := .ref 74) (k' := 100) (ls' := [some (.ref 67), some (.int l1), some (.int l2), some (.int l3), some (.int l4), some (.int l5), some (.int l6), some (.int l7), some (.int v5), some (.int v6)]) (st' := []) (h' := h) (k_67 L) (congrArg Value.ref (r_67_21 L)) rfl ?_
          refine mX_to 6 (k' := 106) (ls' := [some (.ref 67), some (.int l1), some (.int l2), some (.int l3), some (.int l4), some (.int l5), some (.int l6), some (.int l7), some (.int v5), some (.int v6)]) (st' := [.ref 67, .int v5, .ref 67, .int (l5 - 1), .ref 74]) (h' := h) rfl ?_
          refine mX_ckv (v := .ref (gR h 67 21)) (v' := .ref 74) (k' := 107) (ls' := [some (.ref 67), some (.int l1), some (.int l2), some (.int l3), some (.int l4), some (.int l5), some (.int l6), some (.int l7), some (.int v5), some (.int v6)]) (st' := [.int v5, .ref 67, .int (l5 - 1), .ref 74]) (h' := h) (k_67 L) (congrArg Value.ref (r_67_21 L)) rfl ?_
          refine mX_to 3 (k' := 110) (ls' := [some (.ref 67), some (.int l1), some (.int l2), some (.int l3), some (.int l4), some (.int l5), some (.int l6), some (.int l7), some (.int v5), some (.int v6)]) (st' := [.int (l5 - 1), .ref 74, .int v5, .ref 67, .int (l5 - 1), .ref 74]) (h' := h) rfl ?_
          refine mX_ckw (v := .long (gL h 74 (ix (l5 - 1)))) (v' := .long (gL h 74 (ix (l5 - 1)))) (k' := 111) (ls' := [some (.ref 67), some (.int l1), some (.int l2), some (.int l3), some (.int l4), some (.int l5), some (.int l6), some (.int l7), some (.int v5), some (.int v6)]) (st' := [.int v5, .ref 67, .int (l5 - 1), .ref 74]) (h' := h) (ckA0 (k_74 L) (n_74 L)) rfl rfl fun c16 => ?_
          refine mX_ckct (m := mcl (mE mtab d 164 [.ref 67, .int v5, .long (gL h 74 (ix (l5 - 1)))] h) 2 112 [some (.ref 67), some (.int l1), some (.int l2), some (.int l3), some (.int l4), some (.int l5), some (.int l6), some (.int l7), some (.int v5), some (.int v6)] [.int (l5 - 1), .ref 74]) (k_67 L) rfl ?_
          refine mk_cLe (o := F_X11_ofOne d v5 (gL h 74 (ix (l5 - 1))) h) ?_
          intro x13 h12 eh12
          have L12 : lay h12 := lay_call d 164 [.ref 67, .int v5, .long (gL h 74 (ix (l5 - 1)))] h _ h12 rfl eh12 L
          refine mX_cki (k' := 113) (ls' := [some (.ref 67), some (.int l1), some (.int l2), some (.int l3), some (.int l4), some (.int l5), some (.int l6), some (.int l7), some (.int v5), some (.int v6)]) (st' := []) (h' := (sL h12 74 (ix (l5 - 1)) x13)) (ckA0 (k_74 L12) (n_74 L12)) rfl fun c14 => ?_
          refine lt_geq2 (X := fun h15 : MH => mX (mE mtab d) KX11_summedUp 113 [some (.ref 67), some (.int l1), some (.int l2), some (.int l3), some (.int l4), some (.int l5), some (.int l6), some (.int l7), some (.int v5), some (.int v6)] [] h15) (a := (sL h12 74 (ix (l5 - 1)) x13)) (a' := (sL h12 74 (ix (l5 - 1)) x13)) rfl fun h15 eh15 => ?_
          have L15 : lay h15 := eh15 ▸ layL L12
          refine mX_to 1 (k' := 198) (ls' := [some (.ref 67), some (.int l1), some (.int l2), some (.int l3), some (.int l4), some (.int l5), some (.int l6), some (.int l7), some (.int v5), some (.int v6)]) (st' := []) (h' := h15) rfl ?_
          rfl
        · refine mX_to 2 (k' := 116) (ls' := [some (.ref 67), some (.int l1), some (.int l2), some (.int l3), some (.int l4), some (.int l5), some (.int l6), some (.int l7), some (.int v5), some (.int v6)]) (st' := [.int 10, .int v5]) (h' := h) rfl ?_
          refine mX_br (t := 117) (f := 137) (ls' := [some (.ref 67), some (.int l1), some (.int l2), some (.int l3), some (.int l4), some (.int l5), some (.int l6), some (.int l7), some (.int v5), some (.int v6)]) (st' := []) (h' := h) rfl ?_ ?_
          · refine mX_to 2 (k' := 119) (ls' := [some (.ref 67), some (.int l1), some (.int l2), some (.int l3), some (.int l4), some (.int (l5 + (-1))), some (.int l6), some (.int l7), some (.int v5), some (.int v6)]) (st' := [.ref 67]) (h' := h) rfl ?_
            refine mX_ckv (v := .ref (gR h 67 21)) (v' := .ref 74) (k' := 120) (ls' := [some (.ref 67), some (.int l1), some (.int l2), some (.int l3), some (.int l4), some (.int (l5 + (-1))), some (.int l6), some (.int l7), some (.int v5), some (.int v6)]) (st' := []) (h' := h) (k_67 L) (congrArg Value.ref (r_67_21 L)) rfl ?_
            refine mX_to 5 (k' := 125) (ls' := [some (.ref 67), some (.int l1), some (.int l2), some (.int l3), some (.int l4), some (.int (l5 + (-1))), some (.int l6), some (.int l7), some (.int v5), some (.int v6)]) (st' := [.ref 67, .int v5, .int ((l5 + (-1)) - 1), .ref 74]) (h' := h) rfl ?_
            refine mX_ckv (v := .ref (gR h 67 21)) (v' := .ref 74) (k' := 126) (ls' := [some (.ref 67), some (.int l1), some (.int l2), some (.int l3), some (.int l4), some (.int (l5 + (-1))), some (.int l6), some (.int l7), some (.int v5), some (.int v6)]) (st' := [.int v5, .int ((l5 + (-1)) - 1), .ref 74]) (h' := h) (k_67 L) (congrArg Value.ref (r_67_21 L)) rfl ?_
            refine mX_to 3 (k' := 129) (ls' := [some (.ref 67), some (.int l1), some (.int l2), some (.int l3), some (.int l4), some (.int (l5 + (-1))), some (.int l6), some (.int l7), some (.int v5), some (.int v6)]) (st' := [.int ((l5 + (-1)) - 1), .ref 74, .int v5, .int ((l5 + (-1)) - 1), .ref 74]) (h' := h) rfl ?_
            refine mX_ckw (v := .long (gL h 74 (ix ((l5 + (-1)) - 1)))) (v' := .long (gL h 74 (ix ((l5 + (-1)) - 1)))) (k' := 130) (ls' := [some (.ref 67), some (.int l1), some (.int l2), some (.int l3), some (.int l4), some (.int (l5 + (-1))), some (.int l6), some (.int l7), some (.int v5), some (.int v6)]) (st' := [.int v5, .int ((l5 + (-1)) - 1), .ref 74]) (h' := h) (ckA0 (k_74 L) (n_74 L)) rfl rfl fun c22 => ?_
            refine mX_to 1 (k' := 131) (ls' := [some (.ref 67), some (.int l1), some (.int l2), some (.int l3), some (.int l4), some (.int (l5 + (-1))), some (.int l6), some (.int l7), some (.int v5), some (.int v6)]) (st' := [.ref 67, .long (gL h 74 (ix ((l5 + (-1)) - 1))), .int v5, .int ((l5 + (-1)) - 1), .ref 74]) (h' := h) rfl ?_
            refine mX_ckv (v := .ref (gR h 67 21)) (v' := .ref 74) (k' := 132) (ls' := [some (.ref 67), some (.int l1), some (.int l2), some (.int l3), some (.int l4), some (.int (l5 + (-1))), some (.int l6), some (.int l7), some (.int v5), some (.int v6)]) (st' := [.long (gL h 74 (ix ((l5 + (-1)) - 1))), .int v5, .int ((l5 + (-1)) - 1), .ref 74]) (h' := h) (k_67 L) (congrArg Value.ref (r_67_21 L)) rfl ?_
            refine mX_to 1 (k' := 133) (ls' := [some (.ref 67), some (.int l1), some (.int l2), some (.int l3), some (.int l4), some (.int (l5 + (-1))), some (.int l6), some (.int l7), some (.int v5), some (.int v6)]) (st' := [.int (l5 + (-1)), .ref 74, .long (gL h 74 (ix ((l5 + (-1)) - 1))), .int v5, .int ((l5 + (-1)) - 1), .ref 74]) (h' := h) rfl ?_
            refine mX_ckw (v := .long (gL h 74 (ix (l5 + (-1))))) (v' := .long (gL h 74 (ix (l5 + (-1))))) (k' := 134) (ls' := [some (.ref 67), some (.int l1), some (.int l2), some (.int l3), some (.int l4), some (.int (l5 + (-1))), some (.int l6), some (.int l7), some (.int v5), some (.int v6)]) (st' := [.long (gL h 74 (ix ((l5 + (-1)) - 1))), .int v5, .int ((l5 + (-1)) - 1), .ref 74]) (h' := h) (ckA0 (k_74 L) (n_74 L)) rfl rfl fun c21 => ?_
            refine mX_cLe (o := F_X11_two d v5 (gL h 74 (ix ((l5 + (-1)) - 1))) (gL h 74 (ix (l5 + (-1)))) h) (k' := 135) (ls' := [some (.ref 67), some (.int l1), some (.int l2), some (.int l3), some (.int l4), some (.int (l5 + (-1))), some (.int l6), some (.int l7), some (.int v5), some (.int v6)]) (st' := [.int ((l5 + (-1)) - 1), .ref 74]) rfl ?_
            intro x18 h17 eh17
            have L17 : lay h17 := lay_call d 166 [.int v5, .long (gL h 74 (ix ((l5 + (-1)) - 1))), .long (gL h 74 (ix (l5 + (-1))))] h _ h17 rfl eh17 L
            refine mX_cki (k' := 136) (ls' := [some (.ref 67), some (.int l1), some (.int l2), some (.int l3), some (.int l4), some (.int (l5 + (-1))), some (.int l6), some (.int l7), some (.int v5), some (.int v6)]) (st' := []) (h' := (sL h17 74 (ix ((l5 + (-1)) - 1)) x18)) (ckA0 (k_74 L17) (n_74 L17)) rfl fun c19 => ?_
            refine lt_geq2 (X := fun h20 : MH => mX (mE mtab d) KX11_summedUp 136 [some (.ref 67), some (.int l1), some (.int l2), some (.int l3), some (.int l4), some (.int (l5 + (-1))), some (.int l6), some (.int l7), some (.int v5), some (.int v6)] [] h20) (a := (sL h17 74 (ix ((l5 + (-1)) - 1)) x18)) (a' := (sL h17 74 (ix ((l5 + (-1)) - 1)) x18)) rfl fun h20 eh20 => ?_
            have L20 : lay h20 := eh20 ▸ layL L17
            refine mX_to 1 (k' := 198) (ls' := [some (.ref 67), some (.int l1), some (.int l2), some (.int l3), some (.int l4), some (.int (l5 + (-1))), some (.int l6), some (.int l7), some (.int v5), some (.int v6)]) (st' := []) (h' := h20) rfl ?_
            rfl
          · refine mX_to 2 (k' := 139) (ls' := [some (.ref 67), some (.int l1), some (.int l2), some (.int l3), some (.int l4), some (.int l5), some (.int l6), some (.int l7), some (.int v5), some (.int v6)]) (st' := [.int 20, .int v5]) (h' := h) rfl ?_
            refine mX_br (t := 140) (f := 159) (ls' := [some (.ref 67), some (.int l1), some (.int l2), some (.int l3), some (.int l4), some (.int l5), some (.int l6), some (.int l7), some (.int v5), some (.int v6)]) (st' := []) (h' := h) rfl ?_ ?_
            · refine mX_to 2 (k' := 142) (ls' := [some (.ref 67), some (.int l1), some (.int l2), some (.int l3), some (.int l4), some (.int (l5 + (-2))), some (.int l6), some (.int l7), some (.int v5), some (.int v6)]) (st' := [.ref 67]) (h' := h) rfl ?_
              refine mX_ckv (v := .ref (gR h 67 22)) (v' := .ref 75) (k' := 143) (ls' := [some (.ref 67), some (.int l1), some (.int l2), some (.int l3), some (.int l4), some (.int (l5 + (-2))), some (.int l6), some (.int l7), some (.int v5), some (.int v6)]) (st' := []) (h' := h) (k_67 L) (congrArg Value.ref (r_67_22 L)) rfl ?_
              refine mX_to 3 (k' := 146) (ls' := [some (.ref 67), some (.int l1), some (.int l2), some (.int l3), some (.int l4), some (.int (l5 + (-2))), some (.int l6), some (.int l7), some (.int v5), some (.int v6)]) (st' := [.ref 67, .int v5, .int l6, .ref 75]) (h' := h) rfl ?_
              refine mX_ckv (v := .ref (gR h 67 21)) (v' := .ref 74) (k' := 147) (ls' := [some (.ref 67), some (.int l1), some (.int l2), some (.int l3), some (.int l4), some (.int (l5 + (-2))), some (.int l6), some (.int l7), some (.int v5), some (.int v6)]) (st' := [.int v5, .int l6, .ref 75]) (h' := h) (k_67 L) (congrArg Value.ref (r_67_21 L)) rfl ?_
              refine mX_to 1 (k' := 148) (ls' := [some (.ref 67), some (.int l1), some (.int l2), some (.int l3), some (.int l4), some (.int (l5 + (-2))), some (.int l6), some (.int l7), some (.int v5), some (.int v6)]) (st' := [.int (l5 + (-2)), .ref 74, .int v5, .int l6, .ref 75]) (h' := h) rfl ?_
              refine mX_ckw (v := .long (gL h 74 (ix (l5 + (-2))))) (v' := .long (gL h 74 (ix (l5 + (-2))))) (k' := 149) (ls' := [some (.ref 67), some (.int l1), some (.int l2), some (.int l3), some (.int l4), some (.int (l5 + (-2))), some (.int l6), some (.int l7), some (.int v5), some (.int v6)]) (st' := [.int v5, .int l6, .ref 75]) (h' := h) (ckA0 (k_74 L) (n_74 L)) rfl rfl fun c28 => ?_
              refine mX_to 1 (k' := 150) (ls' := [some (.ref 67), some (.int l1), some (.int l2), some (.int l3), some (.int l4), some (.int (l5 + (-2))), some (.int l6), some (.int l7), some (.int v5), some (.int v6)]) (st' := [.ref 67, .long (gL h 74 (ix (l5 + (-2)))), .int v5, .int l6, .ref 75]) (h' := h) rfl ?_
              refine mX_ckv (v := .ref (gR h 67 21)) (v' := .ref 74) (k' := 151) (ls' := [some (.ref 67), some (.int l1), some (.int l2), some (.int l3), some (.int l4), some (.int (l5 + (-2))), some (.int l6), some (.int l7), some (.int v5), some (.int v6)]) (st' := [.long (gL h 74 (ix (l5 + (-2)))), .int v5, .int l6, .ref 75]) (h' := h) (k_67 L) (congrArg Value.ref (r_67_21 L)) rfl ?_
              refine mX_to 3 (k' := 154) (ls' := [some (.ref 67), some (.int l1), some (.int l2), some (.int l3), some (.int l4), some (.int (l5 + (-2))), some (.int l6), some (.int l7), some (.int v5), some (.int v6)]) (st' := [.int ((l5 + (-2)) + 1), .ref 74, .long (gL h 74 (ix (l5 + (-2)))), .int v5, .int l6, .ref 75]) (h' := h) rfl ?_
              refine mX_ckw (v := .long (gL h 74 (ix ((l5 + (-2)) + 1)))) (v' := .long (gL h 74 (ix ((l5 + (-2)) + 1)))) (k' := 155) (ls' := [some (.ref 67), some (.int l1), some (.int l2), some (.int l3), some (.int l4), some (.int (l5 + (-2))), some (.int l6), some (.int l7), some (.int v5), some (.int v6)]) (st' := [.long (gL h 74 (ix (l5 + (-2)))), .int v5, .int l6, .ref 75]) (h' := h) (ckA0 (k_74 L) (n_74 L)) rfl rfl fun c27 => ?_
              refine mX_cIe (o := F_X11_isAsked d v5 (gL h 74 (ix (l5 + (-2)))) (gL h 74 (ix ((l5 + (-2)) + 1))) h) (k' := 156) (ls' := [some (.ref 67), some (.int l1), some (.int l2), some (.int l3), some (.int l4), some (.int (l5 + (-2))), some (.int l6), some (.int l7), some (.int v5), some (.int v6)]) (st' := [.int l6, .ref 75]) rfl ?_
              intro x24 h23 eh23
              have L23 : lay h23 := lay_call d 167 [.int v5, .long (gL h 74 (ix (l5 + (-2)))), .long (gL h 74 (ix ((l5 + (-2)) + 1)))] h _ h23 rfl eh23 L
              refine mX_cki (k' := 157) (ls' := [some (.ref 67), some (.int l1), some (.int l2), some (.int l3), some (.int l4), some (.int (l5 + (-2))), some (.int l6), some (.int l7), some (.int v5), some (.int v6)]) (st' := []) (h' := (sI h23 75 (ix l6) x24)) (ckA3 (k_75 L23) (n_75 L23)) rfl fun c25 => ?_
              refine lt_geq2 (X := fun h26 : MH => mX (mE mtab d) KX11_summedUp 157 [some (.ref 67), some (.int l1), some (.int l2), some (.int l3), some (.int l4), some (.int (l5 + (-2))), some (.int l6), some (.int l7), some (.int v5), some (.int v6)] [] h26) (a := (sI h23 75 (ix l6) x24)) (a' := (sI h23 75 (ix l6) x24)) rfl fun h26 eh26 => ?_
              have L26 : lay h26 := eh26 ▸ layI L23 (by decide)
              refine mX_to 2 (k' := 198) (ls' := [some (.ref 67), some (.int l1), some (.int l2), some (.int l3), some (.int l4), some (.int (l5 + (-2))), some (.int (l6 + 1)), some (.int l7), some (.int v5), some (.int v6)]) (st' := []) (h' := h26) rfl ?_
              rfl
            · refine mX_to 2 (k' := 161) (ls' := [some (.ref 67), some (.int l1), some (.int l2), some (.int l3), some (.int l4), some (.int l5), some (.int l6), some (.int l7), some (.int v5), some (.int v6)]) (st' := [.int 20, .int v5]) (h' := h) rfl ?_
              refine mX_br (t := 162) (f := 179) (ls' := [some (.ref 67), some (.int l1), some (.int l2), some (.int l3), some (.int l4), some (.int l5), some (.int l6), some (.int l7), some (.int v5), some (.int v6)]) (st' := []) (h' := h) rfl ?_ ?_
              · refine mX_to 1 (k' := 163) (ls' := [some (.ref 67), some (.int l1), some (.int l2), some (.int l3), some (.int l4), some (.int l5), some (.int l6), some (.int l7), some (.int v5), some (.int v6)]) (st' := [.ref 67]) (h' := h) rfl ?_
                refine mX_ckv (v := .ref (gR h 67 22)) (v' := .ref 75) (k' := 164) (ls' := [some (.ref 67), some (.int l1), some (.int l2), some (.int l3), some (.int l4), some (.int l5), some (.int l6), some (.int l7), some (.int v5), some (.int v6)]) (st' := []) (h' := h) (k_67 L) (congrArg Value.ref (r_67_22 L)) rfl ?_
                refine mX_to 4 (k' := 168) (ls' := [some (.ref 67), some (.int l1), some (.int l2), some (.int l3), some (.int l4), some (.int l5), some (.int l6), some (.int l7), some (.int v5), some (.int v6)]) (st' := [.ref 67, .int (l6 - 1), .ref 75]) (h' := h) rfl ?_
                refine mX_ckv (v := .ref (gR h 67 22)) (v' := .ref 75) (k' := 169) (ls' := [some (.ref 67), some (.int l1), some (.int l2), some (.int l3), some (.int l4), some (.int l5), some (.int l6), some (.int l7), some (.int v5), some (.int v6)]) (st' := [.int (l6 - 1), .ref 75]) (h' := h) (k_67 L) (congrArg Value.ref (r_67_22 L)) rfl ?_
                refine mX_to 3 (k' := 172) (ls' := [some (.ref 67), some (.int l1), some (.int l2), some (.int l3), some (.int l4), some (.int l5), some (.int l6), some (.int l7), some (.int v5), some (.int v6)]) (st' := [.int (l6 - 1), .ref 75, .int (l6 - 1), .ref 75]) (h' := h) rfl ?_
                refine mX_ckw (v := .int (gI h 75 (ix (l6 - 1)))) (v' := .int (gI h 75 (ix (l6 - 1)))) (k' := 173) (ls' := [some (.ref 67), some (.int l1), some (.int l2), some (.int l3), some (.int l4), some (.int l5), some (.int l6), some (.int l7), some (.int v5), some (.int v6)]) (st' := [.int (l6 - 1), .ref 75]) (h' := h) (ckA1 (k_75 L) (n_75 L)) rfl rfl fun c29 => ?_
                refine mX_br (t := 174) (f := 176) (ls' := [some (.ref 67), some (.int l1), some (.int l2), some (.int l3), some (.int l4), some (.int l5), some (.int l6), some (.int l7), some (.int v5), some (.int v6)]) (st' := [.int (l6 - 1), .ref 75]) (h' := h) rfl ?_ ?_
                · refine mX_to 2 (k' := 177) (ls' := [some (.ref 67), some (.int l1), some (.int l2), some (.int l3), some (.int l4), some (.int l5), some (.int l6), some (.int l7), some (.int v5), some (.int v6)]) (st' := [.int 1, .int (l6 - 1), .ref 75]) (h' := h) rfl ?_
                  rfl
                · refine mX_to 1 (k' := 177) (ls' := [some (.ref 67), some (.int l1), some (.int l2), some (.int l3), some (.int l4), some (.int l5), some (.int l6), some (.int l7), some (.int v5), some (.int v6)]) (st' := [.int 0, .int (l6 - 1), .ref 75]) (h' := h) rfl ?_
                  rfl
              · refine mX_to 2 (k' := 181) (ls' := [some (.ref 67), some (.int l1), some (.int l2), some (.int l3), some (.int l4), some (.int l5), some (.int (l6 + (-1))), some (.int l7), some (.int v5), some (.int v6)]) (st' := [.ref 67]) (h' := h) rfl ?_
                refine mX_ckv (v := .ref (gR h 67 22)) (v' := .ref 75) (k' := 182) (ls' := [some (.ref 67), some (.int l1), some (.int l2), some (.int l3), some (.int l4), some (.int l5), some (.int (l6 + (-1))), some (.int l7), some (.int v5), some (.int v6)]) (st' := []) (h' := h) (k_67 L) (congrArg Value.ref (r_67_22 L)) rfl ?_
                refine mX_to 5 (k' := 187) (ls' := [some (.ref 67), some (.int l1), some (.int l2), some (.int l3), some (.int l4), some (.int l5), some (.int (l6 + (-1))), some (.int l7), some (.int v5), some (.int v6)]) (st' := [.ref 67, .int v5, .int ((l6 + (-1)) - 1), .ref 75]) (h' := h) rfl ?_
                refine mX_ckv (v := .ref (gR h 67 22)) (v' := .ref 75) (k' := 188) (ls' := [some (.ref 67), some (.int l1), some (.int l2), some (.int l3), some (.int l4), some (.int l5), some (.int (l6 + (-1))), some (.int l7), some (.int v5), some (.int v6)]) (st' := [.int v5, .int ((l6 + (-1)) - 1), .ref 75]) (h' := h) (k_67 L) (congrArg Value.ref (r_67_22 L)) rfl ?_
                refine mX_to 3 (k' := 191) (ls' := [some (.ref 67), some (.int l1), some (.int l2), some (.int l3), some (.int l4), some (.int l5), some (.int (l6 + (-1))), some (.int l7), some (.int v5), some (.int v6)]) (st' := [.int ((l6 + (-1)) - 1), .ref 75, .int v5, .int ((l6 + (-1)) - 1), .ref 75]) (h' := h) rfl ?_
                refine mX_ckw (v := .int (gI h 75 (ix ((l6 + (-1)) - 1)))) (v' := .int (gI h 75 (ix ((l6 + (-1)) - 1)))) (k' := 192) (ls' := [some (.ref 67), some (.int l1), some (.int l2), some (.int l3), some (.int l4), some (.int l5), some (.int (l6 + (-1))), some (.int l7), some (.int v5), some (.int v6)]) (st' := [.int v5, .int ((l6 + (-1)) - 1), .ref 75]) (h' := h) (ckA1 (k_75 L) (n_75 L)) rfl rfl fun c35 => ?_
                refine mX_to 1 (k' := 193) (ls' := [some (.ref 67), some (.int l1), some (.int l2), some (.int l3), some (.int l4), some (.int l5), some (.int (l6 + (-1))), some (.int l7), some (.int v5), some (.int v6)]) (st' := [.ref 67, .int (gI h 75 (ix ((l6 + (-1)) - 1))), .int v5, .int ((l6 + (-1)) - 1), .ref 75]) (h' := h) rfl ?_
                refine mX_ckv (v := .ref (gR h 67 22)) (v' := .ref 75) (k' := 194) (ls' := [some (.ref 67), some (.int l1), some (.int l2), some (.int l3), some (.int l4), some (.int l5), some (.int (l6 + (-1))), some (.int l7), some (.int v5), some (.int v6)]) (st' := [.int (gI h 75 (ix ((l6 + (-1)) - 1))), .int v5, .int ((l6 + (-1)) - 1), .ref 75]) (h' := h) (k_67 L) (congrArg Value.ref (r_67_22 L)) rfl ?_
                refine mX_to 1 (k' := 195) (ls' := [some (.ref 67), some (.int l1), some (.int l2), some (.int l3), some (.int l4), some (.int l5), some (.int (l6 + (-1))), some (.int l7), some (.int v5), some (.int v6)]) (st' := [.int (l6 + (-1)), .ref 75, .int (gI h 75 (ix ((l6 + (-1)) - 1))), .int v5, .int ((l6 + (-1)) - 1), .ref 75]) (h' := h) rfl ?_
                refine mX_ckw (v := .int (gI h 75 (ix (l6 + (-1))))) (v' := .int (gI h 75 (ix (l6 + (-1))))) (k' := 196) (ls' := [some (.ref 67), some (.int l1), some (.int l2), some (.int l3), some (.int l4), some (.int l5), some (.int (l6 + (-1))), some (.int l7), some (.int v5), some (.int v6)]) (st' := [.int (gI h 75 (ix ((l6 + (-1)) - 1))), .int v5, .int ((l6 + (-1)) - 1), .ref 75]) (h' := h) (ckA1 (k_75 L) (n_75 L)) rfl rfl fun c34 => ?_
                refine mX_cIe (o := F_X11_joined d v5 (gI h 75 (ix ((l6 + (-1)) - 1))) (gI h 75 (ix (l6 + (-1)))) h) (k' := 197) (ls' := [some (.ref 67), some (.int l1), some (.int l2), some (.int l3), some (.int l4), some (.int l5), some (.int (l6 + (-1))), some (.int l7), some (.int v5), some (.int v6)]) (st' := [.int ((l6 + (-1)) - 1), .ref 75]) rfl ?_
                intro x31 h30 eh30
                have L30 : lay h30 := lay_call d 168 [.int v5, .int (gI h 75 (ix ((l6 + (-1)) - 1))), .int (gI h 75 (ix (l6 + (-1))))] h _ h30 rfl eh30 L
                refine mX_cki (k' := 198) (ls' := [some (.ref 67), some (.int l1), some (.int l2), some (.int l3), some (.int l4), some (.int l5), some (.int (l6 + (-1))), some (.int l7), some (.int v5), some (.int v6)]) (st' := []) (h' := (sI h30 75 (ix ((l6 + (-1)) - 1)) x31)) (ckA3 (k_75 L30) (n_75 L30)) rfl fun c32 => ?_
                refine lt_geq2 (X := fun h33 : MH => mX (mE mtab d) KX11_summedUp 198 [some (.ref 67), some (.int l1), some (.int l2), some (.int l3), some (.int l4), some (.int l5), some (.int (l6 + (-1))), some (.int l7), some (.int v5), some (.int v6)] [] h33) (a := (sI h30 75 (ix ((l6 + (-1)) - 1)) x31)) (a' := (sI h30 75 (ix ((l6 + (-1)) - 1)) x31)) rfl fun h33 eh33 => ?_
                have L33 : lay h33 := eh33 ▸ layI L30 (by decide)
                rfl
  · refine mX_to 1 (k' := 201) (ls' := [some (.ref 67), some (.int l1), some (.int l2), some (.int l3), some (.int l4), some (.int l5), some (.int l6), some (.int l7), o8, o9]) (st' := [.ref 67]) (h' := h) rfl ?_
    refine mX_ckv (v := .ref (gR h 67 21)) (v' := .ref 74) (k' := 202) (ls' := [some (.ref 67), some (.int l1), some (.int l2), some (.int l3), some (.int l4), some (.int l5), some (.int l6), some (.int l7), o8, o9]) (st' := []) (h' := h) (k_67 L) (congrArg Value.ref (r_67_21 L)) rfl ?_
    refine mX_to 1 (k' := 203) (ls' := [some (.ref 67), some (.int l1), some (.int l2), some (.int l3), some (.int l4), some (.int l5), some (.int l6), some (.int l7), o8, o9]) (st' := [.int 0, .ref 74]) (h' := h) rfl ?_
    refine mX_ckv (v := .long (gL h 74 (ix (0 : Int32)))) (v' := .long (gL h 74 0)) (k' := 204) (ls' := [some (.ref 67), some (.int l1), some (.int l2), some (.int l3), some (.int l4), some (.int l5), some (.int l6), some (.int l7), o8, o9]) (st' := []) (h' := h) ((ckA0 (k_74 L) (n_74 L)).mpr (ib_lit (n := 0) rfl (by decide) (by decide))) (congrArg (fun j => Value.long (gL h 74 j)) (ix_lit (n := 0) rfl (by decide))) rfl ?_
    exact mX_ret rfl
theorem S_X11_summedUp_71 {h : MH} (L : lay h) (d : Nat) (l1 : Int32) (l2 : Int32) (l3 : Int32) (l4 : Int32) (l5 : Int32) (l6 : Int32) (l7 : Int32) (l8 : Int32) (l9 : Int32) (s0 : Int64) (s1 : Int32) : G_X11_summedUp_71 d l1 l2 l3 l4 l5 l6 l7 l8 l9 s0 s1 h = ck (ib s1 330) (lt_ (sL h 74 (ix s1) s0) fun h40 => G_X11_summedUp_198 d l1 l2 l3 l4 (l5 + 1) l6 l7 l8 l9 h40) := by
  refine mX_cki (k' := 72) (ls' := [some (.ref 67), some (.int l1), some (.int l2), some (.int l3), some (.int l4), some (.int l5), some (.int l6), some (.int l7), some (.int l8), some (.int l9)]) (st' := []) (h' := (sL h 74 (ix s1) s0)) (ckA0 (k_74 L) (n_74 L)) rfl fun c39 => ?_
  refine lt_geq2 (X := fun h40 : MH => mX (mE mtab d) KX11_summedUp 72 [some (.ref 67), some (.int l1), some (.int l2), some (.int l3), some (.int l4), some (.int l5), some (.int l6), some (.int l7), some (.int l8), some (.int l9)] [] h40) (a := (sL h 74 (ix s1) s0)) (a' := (sL h 74 (ix s1) s0)) rfl fun h40 eh40 => ?_
  have L40 : lay h40 := eh40 ▸ layL L
  refine mX_to 2 (k' := 198) (ls' := [some (.ref 67), some (.int l1), some (.int l2), some (.int l3), some (.int l4), some (.int (l5 + 1)), some (.int l6), some (.int l7), some (.int l8), some (.int l9)]) (st' := []) (h' := h40) rfl ?_
  rfl
theorem S_X11_summedUp_198 {h : MH} (L : lay h) (d : Nat) (l1 : Int32) (l2 : Int32) (l3 : Int32) (l4 : Int32) (l5 : Int32) (l6 : Int32) (l7 : Int32) (l8 : Int32) (l9 : Int32) : G_X11_summedUp_198 d l1 l2 l3 l4 l5 l6 l7 l8 l9 h = G_X11_summedUp_27 d l1 l2 l3 l4 l5 l6 (l7 + 1) (some (.int l8)) (some (.int l9)) h := by
  refine mX_to 2 (k' := 27) (ls' := [some (.ref 67), some (.int l1), some (.int l2), some (.int l3), some (.int l4), some (.int l5), some (.int l6), some (.int (l7 + 1)), some (.int l8), some (.int l9)]) (st' := []) (h' := h) rfl ?_
  rfl
theorem S_X11_summedUp_177 {h : MH} (L : lay h) (d : Nat) (l1 : Int32) (l2 : Int32) (l3 : Int32) (l4 : Int32) (l5 : Int32) (l6 : Int32) (l7 : Int32) (l8 : Int32) (l9 : Int32) (s0 : Int32) (s1 : Int32) : G_X11_summedUp_177 d l1 l2 l3 l4 l5 l6 l7 l8 l9 s0 s1 h = ck (ib s1 330 ∧ (s0 = 0 ∨ s0 = 1)) (lt_ (sI h 75 (ix s1) s0) fun h42 => G_X11_summedUp_198 d l1 l2 l3 l4 l5 l6 l7 l8 l9 h42) := by
  refine mX_cki (k' := 178) (ls' := [some (.ref 67), some (.int l1), some (.int l2), some (.int l3), some (.int l4), some (.int l5), some (.int l6), some (.int l7), some (.int l8), some (.int l9)]) (st' := []) (h' := (sI h 75 (ix s1) s0)) (ckA3 (k_75 L) (n_75 L)) rfl fun c41 => ?_
  refine lt_geq2 (X := fun h42 : MH => mX (mE mtab d) KX11_summedUp 178 [some (.ref 67), some (.int l1), some (.int l2), some (.int l3), some (.int l4), some (.int l5), some (.int l6), some (.int l7), some (.int l8), some (.int l9)] [] h42) (a := (sI h 75 (ix s1) s0)) (a' := (sI h 75 (ix s1) s0)) rfl fun h42 eh42 => ?_
  have L42 : lay h42 := eh42 ▸ layI L (by decide)
  refine mX_to 1 (k' := 198) (ls' := [some (.ref 67), some (.int l1), some (.int l2), some (.int l3), some (.int l4), some (.int l5), some (.int l6), some (.int l7), some (.int l8), some (.int l9)]) (st' := []) (h' := h42) rfl ?_
  rfl
theorem S_X11_summedUp {h : MH} (L : lay h) (d : Nat) (a1 : Int32) (a2 : Int32) : F_X11_summedUp (d + 1) a1 a2 h = lt_ (((681 * a1) + 1) + (3 * a2)) fun v1 => lt_ ((681 * a1) + 73) fun v2 => ck (ib (v1 + 1) 2724) (lt_ (gI h 70 (ix (v1 + 1))) fun v3 => G_X11_summedUp_27 d a1 a2 v1 v2 0 0 v3 none none h) := by
  refine mE_eq (q := (yX11_summedUp, cX11_summedUp, 10, (some .long), KX11_summedUp)) (C := KX11_summedUp) (ls := [some (.ref 67), some (.int a1), some (.int a2), none, none, none, none, none, none, none]) rfl rfl rfl rfl ?_
  refine mX_to 9 (k' := 9) (ls' := [some (.ref 67), some (.int a1), some (.int a2), none, none, none, none, none, none, none]) (st' := [.int (((681 * a1) + 1) + (3 * a2))]) (h' := h) rfl ?_
  refine lt_gen (X := fun v1 : Int32 => mX (mE mtab d) KX11_summedUp 9 [some (.ref 67), some (.int a1), some (.int a2), none, none, none, none, none, none, none] [.int v1] h) fun v1 => ?_
  refine mX_to 6 (k' := 15) (ls' := [some (.ref 67), some (.int a1), some (.int a2), some (.int v1), none, none, none, none, none, none]) (st' := [.int ((681 * a1) + 73)]) (h' := h) rfl ?_
  refine lt_gen (X := fun v2 : Int32 => mX (mE mtab d) KX11_summedUp 15 [some (.ref 67), some (.int a1), some (.int a2), some (.int v1), none, none, none, none, none, none] [.int v2] h) fun v2 => ?_
  refine mX_to 6 (k' := 21) (ls' := [some (.ref 67), some (.int a1), some (.int a2), some (.int v1), some (.int v2), some (.int 0), some (.int 0), none, none, none]) (st' := [.ref 67]) (h' := h) rfl ?_
  refine mX_ckv (v := .ref (gR h 67 2)) (v' := .ref 70) (k' := 22) (ls' := [some (.ref 67), some (.int a1), some (.int a2), some (.int v1), some (.int v2), some (.int 0), some (.int 0), none, none, none]) (st' := []) (h' := h) (k_67 L) (congrArg Value.ref (r_67_2 L)) rfl ?_
  refine mX_to 3 (k' := 25) (ls' := [some (.ref 67), some (.int a1), some (.int a2), some (.int v1), some (.int v2), some (.int 0), some (.int 0), none, none, none]) (st' := [.int (v1 + 1), .ref 70]) (h' := h) rfl ?_
  refine mX_ckw (v := .int (gI h 70 (ix (v1 + 1)))) (v' := .int (gI h 70 (ix (v1 + 1)))) (k' := 26) (ls' := [some (.ref 67), some (.int a1), some (.int a2), some (.int v1), some (.int v2), some (.int 0), some (.int 0), none, none, none]) (st' := []) (h' := h) (ckA1 (k_70 L) (n_70 L)) rfl rfl fun c4 => ?_
  refine lt_gen (X := fun v3 : Int32 => mX (mE mtab d) KX11_summedUp 26 [some (.ref 67), some (.int a1), some (.int a2), some (.int v1), some (.int v2), some (.int 0), some (.int 0), none, none, none] [.int v3] h) fun v3 => ?_
  refine mX_to 1 (k' := 27) (ls' := [some (.ref 67), some (.int a1), some (.int a2), some (.int v1), some (.int v2), some (.int 0), some (.int 0), some (.int v3), none, none]) (st' := []) (h' := h) rfl ?_
  rfl
theorem S_X11_cut {h : MH} (L : lay h) (d : Nat) (a0 : Int64) (a1 : Int32) (a2 : Int32) : F_X11_cut (d + 1) a0 a1 a2 h = (if (lg_cmp a0 ((a1 : Int32).toInt64)) < 0 then some (.int a1, h) else (if (lg_cmp a0 ((a2 : Int32).toInt64)) ≤ 0 then some (.int ((a0 : Int64).toInt32), h) else some (.int a2, h))) := by
  refine mE_eq (q := (yX11_cut, cX11_cut, 4, (some .int), KX11_cut)) (C := KX11_cut) (ls := [some (.long a0), none, some (.int a1), some (.int a2)]) rfl rfl rfl rfl ?_
  refine mX_to 4 (k' := 4) (ls' := [some (.long a0), none, some (.int a1), some (.int a2)]) (st' := [.int (lg_cmp a0 ((a1 : Int32).toInt64))]) (h' := h) rfl ?_
  refine mX_br (t := 5) (f := 7) (ls' := [some (.long a0), none, some (.int a1), some (.int a2)]) (st' := []) (h' := h) rfl ?_ ?_
  · refine mX_to 2 (k' := 16) (ls' := [some (.long a0), none, some (.int a1), some (.int a2)]) (st' := [.int a1]) (h' := h) rfl ?_
    exact mX_reti rfl
  · refine mX_to 4 (k' := 11) (ls' := [some (.long a0), none, some (.int a1), some (.int a2)]) (st' := [.int (lg_cmp a0 ((a2 : Int32).toInt64))]) (h' := h) rfl ?_
    refine mX_br (t := 14) (f := 12) (ls' := [some (.long a0), none, some (.int a1), some (.int a2)]) (st' := []) (h' := h) rfl ?_ ?_
    · refine mX_to 2 (k' := 16) (ls' := [some (.long a0), none, some (.int a1), some (.int a2)]) (st' := [.int ((a0 : Int64).toInt32)]) (h' := h) rfl ?_
      exact mX_reti rfl
    · refine mX_to 2 (k' := 16) (ls' := [some (.long a0), none, some (.int a1), some (.int a2)]) (st' := [.int a2]) (h' := h) rfl ?_
      exact mX_reti rfl
theorem S_X11_says_2 {h : MH} (L : lay h) (d : Nat) (l1 : Int32) (l2 : Int32) (l3 : Int32) (l4 : Int32) (l5 : Int32) : G_X11_says_2 d l1 l2 l3 l4 l5 h = (if l1 < 0 then some (.int l3, h) else ck (ib (681 * l1) 2724) ((if l5 < (gI h 70 (ix (681 * l1))) then ck (ib (((681 * l1) + 1) + (3 * l5)) 2724) ((if (gI h 70 (ix (((681 * l1) + 1) + (3 * l5)))) = l2 then cL (F_X11_summedUp d l1 l5 h) (fun x2 h1 => cI (F_X11_cut d x2 0 l4 h1) (fun x4 h3 => some (.int x4, h3))) else G_X11_says_2 d l1 l2 l3 l4 (l5 + 1) h)) else some (.int l3, h)))) := by
  refine mX_to 1 (k' := 3) (ls' := [some (.ref 67), some (.int l1), some (.int l2), some (.int l3), some (.int l4), some (.int l5)]) (st' := [.int l1]) (h' := h) rfl ?_
  refine mX_br (t := 36) (f := 4) (ls' := [some (.ref 67), some (.int l1), some (.int l2), some (.int l3), some (.int l4), some (.int l5)]) (st' := []) (h' := h) rfl ?_ ?_
  · refine mX_to 1 (k' := 37) (ls' := [some (.ref 67), some (.int l1), some (.int l2), some (.int l3), some (.int l4), some (.int l5)]) (st' := [.int l3]) (h' := h) rfl ?_
    exact mX_reti rfl
  · refine mX_to 2 (k' := 6) (ls' := [some (.ref 67), some (.int l1), some (.int l2), some (.int l3), some (.int l4), some (.int l5)]) (st' := [.ref 67, .int l5]) (h' := h) rfl ?_
    refine mX_ckv (v := .ref (gR h 67 2)) (v' := .ref 70) (k' := 7) (ls' := [some (.ref 67), some (.int l1), some (.int l2), some (.int l3), some (.int l4), some (.int l5)]) (st' := [.int l5]) (h' := h) (k_67 L) (congrArg Value.ref (r_67_2 L)) rfl ?_
    refine mX_to 3 (k' := 10) (ls' := [some (.ref 67), some (.int l1), some (.int l2), some (.int l3), some (.int l4), some (.int l5)]) (st' := [.int (681 * l1), .ref 70, .int l5]) (h' := h) rfl ?_
    refine mX_ckw (v := .int (gI h 70 (ix (681 * l1)))) (v' := .int (gI h 70 (ix (681 * l1)))) (k' := 11) (ls' := [some (.ref 67), some (.int l1), some (.int l2), some (.int l3), some (.int l4), some (.int l5)]) (st' := [.int l5]) (h' := h) (ckA1 (k_70 L) (n_70 L)) rfl rfl fun c6 => ?_
    refine mX_br (t := 12) (f := 36) (ls' := [some (.ref 67), some (.int l1), some (.int l2), some (.int l3), some (.int l4), some (.int l5)]) (st' := []) (h' := h) rfl ?_ ?_
    · refine mX_to 1 (k' := 13) (ls' := [some (.ref 67), some (.int l1), some (.int l2), some (.int l3), some (.int l4), some (.int l5)]) (st' := [.ref 67]) (h' := h) rfl ?_
      refine mX_ckv (v := .ref (gR h 67 2)) (v' := .ref 70) (k' := 14) (ls' := [some (.ref 67), some (.int l1), some (.int l2), some (.int l3), some (.int l4), some (.int l5)]) (st' := []) (h' := h) (k_67 L) (congrArg Value.ref (r_67_2 L)) rfl ?_
      refine mX_to 9 (k' := 23) (ls' := [some (.ref 67), some (.int l1), some (.int l2), some (.int l3), some (.int l4), some (.int l5)]) (st' := [.int (((681 * l1) + 1) + (3 * l5)), .ref 70]) (h' := h) rfl ?_
      refine mX_ckw (v := .int (gI h 70 (ix (((681 * l1) + 1) + (3 * l5))))) (v' := .int (gI h 70 (ix (((681 * l1) + 1) + (3 * l5))))) (k' := 24) (ls' := [some (.ref 67), some (.int l1), some (.int l2), some (.int l3), some (.int l4), some (.int l5)]) (st' := []) (h' := h) (ckA1 (k_70 L) (n_70 L)) rfl rfl fun c5 => ?_
      refine mX_to 1 (k' := 25) (ls' := [some (.ref 67), some (.int l1), some (.int l2), some (.int l3), some (.int l4), some (.int l5)]) (st' := [.int l2, .int (gI h 70 (ix (((681 * l1) + 1) + (3 * l5))))]) (h' := h) rfl ?_
      refine mX_br (t := 26) (f := 34) (ls' := [some (.ref 67), some (.int l1), some (.int l2), some (.int l3), some (.int l4), some (.int l5)]) (st' := []) (h' := h) rfl ?_ ?_
      · refine mX_to 3 (k' := 29) (ls' := [some (.ref 67), some (.int l1), some (.int l2), some (.int l3), some (.int l4), some (.int l5)]) (st' := [.int l5, .int l1, .ref 67]) (h' := h) rfl ?_
        refine mX_ckct (m := mcl (mE mtab d 169 [.ref 67, .int l1, .int l5] h) 2 30 [some (.ref 67), some (.int l1), some (.int l2), some (.int l3), some (.int l4), some (.int l5)] []) (k_67 L) rfl ?_
        refine mk_cLe (o := F_X11_summedUp d l1 l5 h) ?_
        intro x2 h1 eh1
        have L1 : lay h1 := lay_call d 169 [.ref 67, .int l1, .int l5] h _ h1 rfl eh1 L
        refine mX_to 2 (k' := 32) (ls' := [some (.ref 67), some (.int l1), some (.int l2), some (.int l3), some (.int l4), some (.int l5)]) (st' := [.int l4, .int 0, .long x2]) (h' := h1) rfl ?_
        refine mX_cIe (o := F_X11_cut d x2 0 l4 h1) (k' := 33) (ls' := [some (.ref 67), some (.int l1), some (.int l2), some (.int l3), some (.int l4), some (.int l5)]) (st' := []) rfl ?_
        intro x4 h3 eh3
        have L3 : lay h3 := lay_call d 170 [.long x2, .int 0, .int l4] h1 _ h3 rfl eh3 L1
        exact mX_reti rfl
      · refine mX_to 2 (k' := 2) (ls' := [some (.ref 67), some (.int l1), some (.int l2), some (.int l3), some (.int l4), some (.int (l5 + 1))]) (st' := []) (h' := h) rfl ?_
        rfl
    · refine mX_to 1 (k' := 37) (ls' := [some (.ref 67), some (.int l1), some (.int l2), some (.int l3), some (.int l4), some (.int l5)]) (st' := [.int l3]) (h' := h) rfl ?_
      exact mX_reti rfl
theorem S_X11_says {h : MH} (L : lay h) (d : Nat) (a1 : Int32) (a2 : Int32) (a3 : Int32) (a4 : Int32) : F_X11_says (d + 1) a1 a2 a3 a4 h = G_X11_says_2 d a1 a2 a3 a4 0 h := by
  refine mE_eq (q := (yX11_says, cX11_says, 6, (some .int), KX11_says)) (C := KX11_says) (ls := [some (.ref 67), some (.int a1), some (.int a2), some (.int a3), some (.int a4), none]) rfl rfl rfl rfl ?_
  refine mX_to 2 (k' := 2) (ls' := [some (.ref 67), some (.int a1), some (.int a2), some (.int a3), some (.int a4), some (.int 0)]) (st' := []) (h' := h) rfl ?_
  rfl
theorem S_X11_tipsNow {h : MH} (L : lay h) (d : Nat) : F_X11_tipsNow (d + 1) h = cV (F_X11_name d h) (fun h1 => cI (F_X11_says d (gI h1 68 3) 0 9 99 h1) (fun x3 h2 => some (.int x3, h2))) := by
  refine mE_eq (q := (yX11_tipsNow, cX11_tipsNow, 1, (some .int), KX11_tipsNow)) (C := KX11_tipsNow) (ls := [some (.ref 67)]) rfl rfl rfl rfl ?_
  refine mX_to 1 (k' := 1) (ls' := [some (.ref 67)]) (st' := [.ref 67]) (h' := h) rfl ?_
  refine mX_ckct (m := mcl (mE mtab d 160 [.ref 67] h) 0 2 [some (.ref 67)] []) (k_67 L) rfl ?_
  refine mk_cVe (o := F_X11_name d h) ?_
  intro wh1 h1 eh1
  have L1 : lay h1 := lay_call d 160 [.ref 67] h _ h1 rfl eh1 L
  refine mX_to 2 (k' := 4) (ls' := [some (.ref 67)]) (st' := [.ref 67, .ref 67]) (h' := h1) rfl ?_
  refine mX_ckv (v := .ref (gR h1 67 0)) (v' := .ref 68) (k' := 5) (ls' := [some (.ref 67)]) (st' := [.ref 67]) (h' := h1) (k_67 L1) (congrArg Value.ref (r_67_0 L1)) rfl ?_
  refine mX_to 1 (k' := 6) (ls' := [some (.ref 67)]) (st' := [.int 3, .ref 68, .ref 67]) (h' := h1) rfl ?_
  refine mX_ckv (v := .int (gI h1 68 (ix (3 : Int32)))) (v' := .int (gI h1 68 3)) (k' := 7) (ls' := [some (.ref 67)]) (st' := [.ref 67]) (h' := h1) ((ckA1 (k_68 L1) (n_68 L1)).mpr (ib_lit (n := 3) rfl (by decide) (by decide))) (congrArg (fun j => Value.int (gI h1 68 j)) (ix_lit (n := 3) rfl (by decide))) rfl ?_
  refine mX_to 3 (k' := 10) (ls' := [some (.ref 67)]) (st' := [.int 99, .int 9, .int 0, .int (gI h1 68 3), .ref 67]) (h' := h1) rfl ?_
  refine mX_ckct (m := mcl (mE mtab d 171 [.ref 67, .int (gI h1 68 3), .int 0, .int 9, .int 99] h1) 1 11 [some (.ref 67)] []) (k_67 L1) rfl ?_
  refine mk_cIe (o := F_X11_says d (gI h1 68 3) 0 9 99 h1) ?_
  intro x3 h2 eh2
  have L2 : lay h2 := lay_call d 171 [.ref 67, .int (gI h1 68 3), .int 0, .int 9, .int 99] h1 _ h2 rfl eh2 L1
  exact mX_reti rfl
theorem S_X11_isFar {h : MH} (L : lay h) (d : Nat) : F_X11_isFar (d + 1) h = cI (F_X11_tipNow d h) (fun x2 h1 => cI (F_X11_size d x2 h1) (fun x4 h3 => cI (F_X11_tipsNow d h3) (fun x6 h5 => (if x4 ≤ x6 then some (.int 0, h5) else some (.int 1, h5))))) := by
  refine mE_eq (q := (yX11_isFar, cX11_isFar, 1, (some .boolean), KX11_isFar)) (C := KX11_isFar) (ls := [some (.ref 67)]) rfl rfl rfl rfl ?_
  refine mX_to 1 (k' := 1) (ls' := [some (.ref 67)]) (st' := [.ref 67]) (h' := h) rfl ?_
  refine mX_ckct (m := mcl (mE mtab d 156 [.ref 67] h) 1 2 [some (.ref 67)] []) (k_67 L) rfl ?_
  refine mk_cIe (o := F_X11_tipNow d h) ?_
  intro x2 h1 eh1
  have L1 : lay h1 := lay_call d 156 [.ref 67] h _ h1 rfl eh1 L
  refine mX_cIe (o := F_X11_size d x2 h1) (k' := 3) (ls' := [some (.ref 67)]) (st' := []) rfl ?_
  intro x4 h3 eh3
  have L3 : lay h3 := lay_call d 157 [.int x2] h1 _ h3 rfl eh3 L1
  refine mX_to 1 (k' := 4) (ls' := [some (.ref 67)]) (st' := [.ref 67, .int x4]) (h' := h3) rfl ?_
  refine mX_ckct (m := mcl (mE mtab d 172 [.ref 67] h3) 1 5 [some (.ref 67)] [.int x4]) (k_67 L3) rfl ?_
  refine mk_cIe (o := F_X11_tipsNow d h3) ?_
  intro x6 h5 eh5
  have L5 : lay h5 := lay_call d 172 [.ref 67] h3 _ h5 rfl eh5 L3
  refine mX_br (t := 8) (f := 6) (ls' := [some (.ref 67)]) (st' := []) (h' := h5) rfl ?_ ?_
  · refine mX_to 1 (k' := 9) (ls' := [some (.ref 67)]) (st' := [.int 0]) (h' := h5) rfl ?_
    exact mX_retb (by decide) rfl
  · refine mX_to 2 (k' := 9) (ls' := [some (.ref 67)]) (st' := [.int 1]) (h' := h5) rfl ?_
    exact mX_retb (by decide) rfl
theorem S_X11_canWalk_17 {h : MH} (L : lay h) (d : Nat) (l1 : Int32) (l2 : Int32) (s0 : Int32) : G_X11_canWalk_17 d l1 l2 s0 h = (if l2 = 0 then G_X11_canWalk_25 d l1 l2 s0 1 l1 h else G_X11_canWalk_25 d l1 l2 s0 0 l1 h) := by
  refine mX_to 4 (k' := 21) (ls' := [some (.ref 67), some (.int l1), some (.int l2), some (.int s0)]) (st' := [.int l2, .int l1, .ref 67]) (h' := h) rfl ?_
  refine mX_br (t := 22) (f := 24) (ls' := [some (.ref 67), some (.int l1), some (.int l2), some (.int s0)]) (st' := [.int l1, .ref 67]) (h' := h) rfl ?_ ?_
  · refine mX_to 2 (k' := 25) (ls' := [some (.ref 67), some (.int l1), some (.int l2), some (.int s0)]) (st' := [.int 1, .int l1, .ref 67]) (h' := h) rfl ?_
    rfl
  · refine mX_to 1 (k' := 25) (ls' := [some (.ref 67), some (.int l1), some (.int l2), some (.int s0)]) (st' := [.int 0, .int l1, .ref 67]) (h' := h) rfl ?_
    rfl
theorem S_X11_canWalk_25 {h : MH} (L : lay h) (d : Nat) (l1 : Int32) (l2 : Int32) (l3 : Int32) (s0 : Int32) (s1 : Int32) : G_X11_canWalk_25 d l1 l2 l3 s0 s1 h = cV (F_X11_move d s1 s0 h) (fun h6 => ck (mrt 1 l3) (some (.int l3, h6))) := by
  refine mX_ckct (m := mcl (mE mtab d 153 [.ref 67, .int s1, .int s0] h) 0 26 [some (.ref 67), some (.int l1), some (.int l2), some (.int l3)] []) (k_67 L) rfl ?_
  refine mk_cVe (o := F_X11_move d s1 s0 h) ?_
  intro wh6 h6 eh6
  have L6 : lay h6 := lay_call d 153 [.ref 67, .int s1, .int s0] h _ h6 rfl eh6 L
  refine mX_to 1 (k' := 27) (ls' := [some (.ref 67), some (.int l1), some (.int l2), some (.int l3)]) (st' := [.int l3]) (h' := h6) rfl ?_
  exact mX_retc rfl
theorem S_X11_canWalk {h : MH} (L : lay h) (d : Nat) (a1 : Int32) (a2 : Int32) : F_X11_canWalk (d + 1) a1 a2 h = cI (F_X11_canStep d a1 a2 h) (fun x2 h1 => (if x2 = 0 then some (.int 0, h1) else cV (F_X11_move d a1 a2 h1) (fun h3 => cI (F_X11_isFar d h3) (fun x5 h4 => (if x5 = 0 then G_X11_canWalk_17 d a1 a2 1 h4 else G_X11_canWalk_17 d a1 a2 0 h4))))) := by
  refine mE_eq (q := (yX11_canWalk, cX11_canWalk, 4, (some .boolean), KX11_canWalk)) (C := KX11_canWalk) (ls := [some (.ref 67), some (.int a1), some (.int a2), none]) rfl rfl rfl rfl ?_
  refine mX_to 3 (k' := 3) (ls' := [some (.ref 67), some (.int a1), some (.int a2), none]) (st' := [.int a2, .int a1, .ref 67]) (h' := h) rfl ?_
  refine mX_ckct (m := mcl (mE mtab d 152 [.ref 67, .int a1, .int a2] h) 1 4 [some (.ref 67), some (.int a1), some (.int a2), none] []) (k_67 L) rfl ?_
  refine mk_cIe (o := F_X11_canStep d a1 a2 h) ?_
  intro x2 h1 eh1
  have L1 : lay h1 := lay_call d 152 [.ref 67, .int a1, .int a2] h _ h1 rfl eh1 L
  refine mX_br (t := 5) (f := 7) (ls' := [some (.ref 67), some (.int a1), some (.int a2), none]) (st' := []) (h' := h1) rfl ?_ ?_
  · refine mX_to 1 (k' := 6) (ls' := [some (.ref 67), some (.int a1), some (.int a2), none]) (st' := [.int 0]) (h' := h1) rfl ?_
    exact mX_retb (by decide) rfl
  · refine mX_to 3 (k' := 10) (ls' := [some (.ref 67), some (.int a1), some (.int a2), none]) (st' := [.int a2, .int a1, .ref 67]) (h' := h1) rfl ?_
    refine mX_ckct (m := mcl (mE mtab d 153 [.ref 67, .int a1, .int a2] h1) 0 11 [some (.ref 67), some (.int a1), some (.int a2), none] []) (k_67 L1) rfl ?_
    refine mk_cVe (o := F_X11_move d a1 a2 h1) ?_
    intro wh3 h3 eh3
    have L3 : lay h3 := lay_call d 153 [.ref 67, .int a1, .int a2] h1 _ h3 rfl eh3 L1
    refine mX_to 1 (k' := 12) (ls' := [some (.ref 67), some (.int a1), some (.int a2), none]) (st' := [.ref 67]) (h' := h3) rfl ?_
    refine mX_ckct (m := mcl (mE mtab d 173 [.ref 67] h3) 1 13 [some (.ref 67), some (.int a1), some (.int a2), none] []) (k_67 L3) rfl ?_
    refine mk_cIe (o := F_X11_isFar d h3) ?_
    intro x5 h4 eh4
    have L4 : lay h4 := lay_call d 173 [.ref 67] h3 _ h4 rfl eh4 L3
    refine mX_br (t := 14) (f := 16) (ls' := [some (.ref 67), some (.int a1), some (.int a2), none]) (st' := []) (h' := h4) rfl ?_ ?_
    · refine mX_to 2 (k' := 17) (ls' := [some (.ref 67), some (.int a1), some (.int a2), none]) (st' := [.int 1]) (h' := h4) rfl ?_
      rfl
    · refine mX_to 1 (k' := 17) (ls' := [some (.ref 67), some (.int a1), some (.int a2), none]) (st' := [.int 0]) (h' := h4) rfl ?_
      rfl
theorem S_X11_keep_8 {h : MH} (L : lay h) (d : Nat) (l1 : Int32) : G_X11_keep_8 d l1 h = (if l1 < 1363 then ck (ib (105 + l1) 1498) (ck (ib (58 + l1) 1498) (lt_ (sI h 68 (ix (58 + l1)) (gI h 68 (ix (105 + l1)))) fun h2 => G_X11_keep_8 d (l1 + 1) h2)) else lt_ (sI h 68 4 ((gI h 68 4) - 1)) fun h5 => G_X11_keep_33 d (some (.int l1)) h5) := by
  refine mX_to 2 (k' := 10) (ls' := [some (.ref 67), some (.int l1), none]) (st' := [.int 1363, .int l1]) (h' := h) rfl ?_
  refine mX_br (t := 11) (f := 25) (ls' := [some (.ref 67), some (.int l1), none]) (st' := []) (h' := h) rfl ?_ ?_
  · refine mX_to 1 (k' := 12) (ls' := [some (.ref 67), some (.int l1), none]) (st' := [.ref 67]) (h' := h) rfl ?_
    refine mX_ckv (v := .ref (gR h 67 0)) (v' := .ref 68) (k' := 13) (ls' := [some (.ref 67), some (.int l1), none]) (st' := []) (h' := h) (k_67 L) (congrArg Value.ref (r_67_0 L)) rfl ?_
    refine mX_to 4 (k' := 17) (ls' := [some (.ref 67), some (.int l1), none]) (st' := [.ref 67, .int (58 + l1), .ref 68]) (h' := h) rfl ?_
    refine mX_ckv (v := .ref (gR h 67 0)) (v' := .ref 68) (k' := 18) (ls' := [some (.ref 67), some (.int l1), none]) (st' := [.int (58 + l1), .ref 68]) (h' := h) (k_67 L) (congrArg Value.ref (r_67_0 L)) rfl ?_
    refine mX_to 3 (k' := 21) (ls' := [some (.ref 67), some (.int l1), none]) (st' := [.int (105 + l1), .ref 68, .int (58 + l1), .ref 68]) (h' := h) rfl ?_
    refine mX_ckw (v := .int (gI h 68 (ix (105 + l1)))) (v' := .int (gI h 68 (ix (105 + l1)))) (k' := 22) (ls' := [some (.ref 67), some (.int l1), none]) (st' := [.int (58 + l1), .ref 68]) (h' := h) (ckA1 (k_68 L) (n_68 L)) rfl rfl fun c3 => ?_
    refine mX_cki (k' := 23) (ls' := [some (.ref 67), some (.int l1), none]) (st' := []) (h' := (sI h 68 (ix (58 + l1)) (gI h 68 (ix (105 + l1))))) (ckA0 (k_68 L) (n_68 L)) rfl fun c1 => ?_
    refine lt_geq2 (X := fun h2 : MH => mX (mE mtab d) KX11_keep 23 [some (.ref 67), some (.int l1), none] [] h2) (a := (sI h 68 (ix (58 + l1)) (gI h 68 (ix (105 + l1))))) (a' := (sI h 68 (ix (58 + l1)) (gI h 68 (ix (105 + l1))))) rfl fun h2 eh2 => ?_
    have L2 : lay h2 := eh2 ▸ layI L (by decide)
    refine mX_to 2 (k' := 8) (ls' := [some (.ref 67), some (.int (l1 + 1)), none]) (st' := []) (h' := h2) rfl ?_
    rfl
  · refine mX_to 1 (k' := 26) (ls' := [some (.ref 67), some (.int l1), none]) (st' := [.ref 67]) (h' := h) rfl ?_
    refine mX_ckv (v := .ref (gR h 67 0)) (v' := .ref 68) (k' := 27) (ls' := [some (.ref 67), some (.int l1), none]) (st' := []) (h' := h) (k_67 L) (congrArg Value.ref (r_67_0 L)) rfl ?_
    refine mX_to 2 (k' := 29) (ls' := [some (.ref 67), some (.int l1), none]) (st' := [.int 4, .ref 68, .int 4, .ref 68]) (h' := h) rfl ?_
    refine mX_ckv (v := .int (gI h 68 (ix (4 : Int32)))) (v' := .int (gI h 68 4)) (k' := 30) (ls' := [some (.ref 67), some (.int l1), none]) (st' := [.int 4, .ref 68]) (h' := h) ((ckA1 (k_68 L) (n_68 L)).mpr (ib_lit (n := 4) rfl (by decide) (by decide))) (congrArg (fun j => Value.int (gI h 68 j)) (ix_lit (n := 4) rfl (by decide))) rfl ?_
    refine mX_to 2 (k' := 32) (ls' := [some (.ref 67), some (.int l1), none]) (st' := [.int ((gI h 68 4) - 1), .int 4, .ref 68]) (h' := h) rfl ?_
    refine mX_ckt (k' := 33) (ls' := [some (.ref 67), some (.int l1), none]) (st' := []) (h' := (sI h 68 (ix (4 : Int32)) ((gI h 68 4) - 1))) ((ckA0 (k_68 L) (n_68 L)).mpr (ib_lit (n := 4) rfl (by decide) (by decide))) rfl ?_
    refine lt_geq2 (X := fun h5 : MH => mX (mE mtab d) KX11_keep 33 [some (.ref 67), some (.int l1), none] [] h5) (a := (sI h 68 (ix (4 : Int32)) ((gI h 68 4) - 1))) (a' := (sI h 68 4 ((gI h 68 4) - 1))) (congrArg (fun j => sI h 68 j ((gI h 68 4) - 1)) (ix_lit (n := 4) rfl (by decide))) fun h5 eh5 => ?_
    have L5 : lay h5 := eh5 ▸ layI L (by decide)
    rfl
theorem S_X11_keep_33 {h : MH} (L : lay h) (d : Nat) (o1 : Option Value) : G_X11_keep_33 d o1 h = lt_ (58 + (47 * (gI h 68 4))) fun v6 => ck (ib v6 1498) (lt_ (sI h 68 (ix v6) (gI h 68 0)) fun h8 => G_X11_keep_52 d v6 0 h8) := by
  refine mX_to 3 (k' := 36) (ls' := [some (.ref 67), o1, none]) (st' := [.ref 67, .int 47, .int 58]) (h' := h) rfl ?_
  refine mX_ckv (v := .ref (gR h 67 0)) (v' := .ref 68) (k' := 37) (ls' := [some (.ref 67), o1, none]) (st' := [.int 47, .int 58]) (h' := h) (k_67 L) (congrArg Value.ref (r_67_0 L)) rfl ?_
  refine mX_to 1 (k' := 38) (ls' := [some (.ref 67), o1, none]) (st' := [.int 4, .ref 68, .int 47, .int 58]) (h' := h) rfl ?_
  refine mX_ckv (v := .int (gI h 68 (ix (4 : Int32)))) (v' := .int (gI h 68 4)) (k' := 39) (ls' := [some (.ref 67), o1, none]) (st' := [.int 47, .int 58]) (h' := h) ((ckA1 (k_68 L) (n_68 L)).mpr (ib_lit (n := 4) rfl (by decide) (by decide))) (congrArg (fun j => Value.int (gI h 68 j)) (ix_lit (n := 4) rfl (by decide))) rfl ?_
  refine mX_to 2 (k' := 41) (ls' := [some (.ref 67), o1, none]) (st' := [.int (58 + (47 * (gI h 68 4)))]) (h' := h) rfl ?_
  refine lt_gen (X := fun v6 : Int32 => mX (mE mtab d) KX11_keep 41 [some (.ref 67), o1, none] [.int v6] h) fun v6 => ?_
  refine mX_to 2 (k' := 43) (ls' := [some (.ref 67), some (.int v6), none]) (st' := [.ref 67]) (h' := h) rfl ?_
  refine mX_ckv (v := .ref (gR h 67 0)) (v' := .ref 68) (k' := 44) (ls' := [some (.ref 67), some (.int v6), none]) (st' := []) (h' := h) (k_67 L) (congrArg Value.ref (r_67_0 L)) rfl ?_
  refine mX_to 2 (k' := 46) (ls' := [some (.ref 67), some (.int v6), none]) (st' := [.ref 67, .int v6, .ref 68]) (h' := h) rfl ?_
  refine mX_ckv (v := .ref (gR h 67 0)) (v' := .ref 68) (k' := 47) (ls' := [some (.ref 67), some (.int v6), none]) (st' := [.int v6, .ref 68]) (h' := h) (k_67 L) (congrArg Value.ref (r_67_0 L)) rfl ?_
  refine mX_to 1 (k' := 48) (ls' := [some (.ref 67), some (.int v6), none]) (st' := [.int 0, .ref 68, .int v6, .ref 68]) (h' := h) rfl ?_
  refine mX_ckv (v := .int (gI h 68 (ix (0 : Int32)))) (v' := .int (gI h 68 0)) (k' := 49) (ls' := [some (.ref 67), some (.int v6), none]) (st' := [.int v6, .ref 68]) (h' := h) ((ckA1 (k_68 L) (n_68 L)).mpr (ib_lit (n := 0) rfl (by decide) (by decide))) (congrArg (fun j => Value.int (gI h 68 j)) (ix_lit (n := 0) rfl (by decide))) rfl ?_
  refine mX_cki (k' := 50) (ls' := [some (.ref 67), some (.int v6), none]) (st' := []) (h' := (sI h 68 (ix v6) (gI h 68 0))) (ckA0 (k_68 L) (n_68 L)) rfl fun c7 => ?_
  refine lt_geq2 (X := fun h8 : MH => mX (mE mtab d) KX11_keep 50 [some (.ref 67), some (.int v6), none] [] h8) (a := (sI h 68 (ix v6) (gI h 68 0))) (a' := (sI h 68 (ix v6) (gI h 68 0))) rfl fun h8 eh8 => ?_
  have L8 : lay h8 := eh8 ▸ layI L (by decide)
  refine mX_to 2 (k' := 52) (ls' := [some (.ref 67), some (.int v6), some (.int 0)]) (st' := []) (h' := h8) rfl ?_
  rfl
theorem S_X11_keep_52 {h : MH} (L : lay h) (d : Nat) (l1 : Int32) (l2 : Int32) : G_X11_keep_52 d l1 l2 h = (if l2 < 16 then ck (ib (6 + l2) 1498) (ck (ib ((l1 + 1) + l2) 1498) (lt_ (sI h 68 (ix ((l1 + 1) + l2)) (gI h 68 (ix (6 + l2)))) fun h10 => G_X11_keep_52 d l1 (l2 + 1) h10)) else G_X11_keep_73 d l1 0 h) := by
  refine mX_to 2 (k' := 54) (ls' := [some (.ref 67), some (.int l1), some (.int l2)]) (st' := [.int 16, .int l2]) (h' := h) rfl ?_
  refine mX_br (t := 55) (f := 71) (ls' := [some (.ref 67), some (.int l1), some (.int l2)]) (st' := []) (h' := h) rfl ?_ ?_
  · refine mX_to 1 (k' := 56) (ls' := [some (.ref 67), some (.int l1), some (.int l2)]) (st' := [.ref 67]) (h' := h) rfl ?_
    refine mX_ckv (v := .ref (gR h 67 0)) (v' := .ref 68) (k' := 57) (ls' := [some (.ref 67), some (.int l1), some (.int l2)]) (st' := []) (h' := h) (k_67 L) (congrArg Value.ref (r_67_0 L)) rfl ?_
    refine mX_to 6 (k' := 63) (ls' := [some (.ref 67), some (.int l1), some (.int l2)]) (st' := [.ref 67, .int ((l1 + 1) + l2), .ref 68]) (h' := h) rfl ?_
    refine mX_ckv (v := .ref (gR h 67 0)) (v' := .ref 68) (k' := 64) (ls' := [some (.ref 67), some (.int l1), some (.int l2)]) (st' := [.int ((l1 + 1) + l2), .ref 68]) (h' := h) (k_67 L) (congrArg Value.ref (r_67_0 L)) rfl ?_
    refine mX_to 3 (k' := 67) (ls' := [some (.ref 67), some (.int l1), some (.int l2)]) (st' := [.int (6 + l2), .ref 68, .int ((l1 + 1) + l2), .ref 68]) (h' := h) rfl ?_
    refine mX_ckw (v := .int (gI h 68 (ix (6 + l2)))) (v' := .int (gI h 68 (ix (6 + l2)))) (k' := 68) (ls' := [some (.ref 67), some (.int l1), some (.int l2)]) (st' := [.int ((l1 + 1) + l2), .ref 68]) (h' := h) (ckA1 (k_68 L) (n_68 L)) rfl rfl fun c11 => ?_
    refine mX_cki (k' := 69) (ls' := [some (.ref 67), some (.int l1), some (.int l2)]) (st' := []) (h' := (sI h 68 (ix ((l1 + 1) + l2)) (gI h 68 (ix (6 + l2))))) (ckA0 (k_68 L) (n_68 L)) rfl fun c9 => ?_
    refine lt_geq2 (X := fun h10 : MH => mX (mE mtab d) KX11_keep 69 [some (.ref 67), some (.int l1), some (.int l2)] [] h10) (a := (sI h 68 (ix ((l1 + 1) + l2)) (gI h 68 (ix (6 + l2))))) (a' := (sI h 68 (ix ((l1 + 1) + l2)) (gI h 68 (ix (6 + l2))))) rfl fun h10 eh10 => ?_
    have L10 : lay h10 := eh10 ▸ layI L (by decide)
    refine mX_to 2 (k' := 52) (ls' := [some (.ref 67), some (.int l1), some (.int (l2 + 1))]) (st' := []) (h' := h10) rfl ?_
    rfl
  · refine mX_to 2 (k' := 73) (ls' := [some (.ref 67), some (.int l1), some (.int 0)]) (st' := []) (h' := h) rfl ?_
    rfl
theorem S_X11_keep_73 {h : MH} (L : lay h) (d : Nat) (l1 : Int32) (l2 : Int32) : G_X11_keep_73 d l1 l2 h = (if l2 < 30 then ck (ib (1468 + l2) 1498) (ck (ib (((l1 + 1) + 16) + l2) 1498) (lt_ (sI h 68 (ix (((l1 + 1) + 16) + l2)) (gI h 68 (ix (1468 + l2)))) fun h13 => G_X11_keep_73 d l1 (l2 + 1) h13)) else lt_ (sI h 68 4 ((gI h 68 4) + 1)) fun h16 => some (.int 0, h16)) := by
  refine mX_to 2 (k' := 75) (ls' := [some (.ref 67), some (.int l1), some (.int l2)]) (st' := [.int 30, .int l2]) (h' := h) rfl ?_
  refine mX_br (t := 76) (f := 94) (ls' := [some (.ref 67), some (.int l1), some (.int l2)]) (st' := []) (h' := h) rfl ?_ ?_
  · refine mX_to 1 (k' := 77) (ls' := [some (.ref 67), some (.int l1), some (.int l2)]) (st' := [.ref 67]) (h' := h) rfl ?_
    refine mX_ckv (v := .ref (gR h 67 0)) (v' := .ref 68) (k' := 78) (ls' := [some (.ref 67), some (.int l1), some (.int l2)]) (st' := []) (h' := h) (k_67 L) (congrArg Value.ref (r_67_0 L)) rfl ?_
    refine mX_to 8 (k' := 86) (ls' := [some (.ref 67), some (.int l1), some (.int l2)]) (st' := [.ref 67, .int (((l1 + 1) + 16) + l2), .ref 68]) (h' := h) rfl ?_
    refine mX_ckv (v := .ref (gR h 67 0)) (v' := .ref 68) (k' := 87) (ls' := [some (.ref 67), some (.int l1), some (.int l2)]) (st' := [.int (((l1 + 1) + 16) + l2), .ref 68]) (h' := h) (k_67 L) (congrArg Value.ref (r_67_0 L)) rfl ?_
    refine mX_to 3 (k' := 90) (ls' := [some (.ref 67), some (.int l1), some (.int l2)]) (st' := [.int (1468 + l2), .ref 68, .int (((l1 + 1) + 16) + l2), .ref 68]) (h' := h) rfl ?_
    refine mX_ckw (v := .int (gI h 68 (ix (1468 + l2)))) (v' := .int (gI h 68 (ix (1468 + l2)))) (k' := 91) (ls' := [some (.ref 67), some (.int l1), some (.int l2)]) (st' := [.int (((l1 + 1) + 16) + l2), .ref 68]) (h' := h) (ckA1 (k_68 L) (n_68 L)) rfl rfl fun c14 => ?_
    refine mX_cki (k' := 92) (ls' := [some (.ref 67), some (.int l1), some (.int l2)]) (st' := []) (h' := (sI h 68 (ix (((l1 + 1) + 16) + l2)) (gI h 68 (ix (1468 + l2))))) (ckA0 (k_68 L) (n_68 L)) rfl fun c12 => ?_
    refine lt_geq2 (X := fun h13 : MH => mX (mE mtab d) KX11_keep 92 [some (.ref 67), some (.int l1), some (.int l2)] [] h13) (a := (sI h 68 (ix (((l1 + 1) + 16) + l2)) (gI h 68 (ix (1468 + l2))))) (a' := (sI h 68 (ix (((l1 + 1) + 16) + l2)) (gI h 68 (ix (1468 + l2))))) rfl fun h13 eh13 => ?_
    have L13 : lay h13 := eh13 ▸ layI L (by decide)
    refine mX_to 2 (k' := 73) (ls' := [some (.ref 67), some (.int l1), some (.int (l2 + 1))]) (st' := []) (h' := h13) rfl ?_
    rfl
  · refine mX_to 1 (k' := 95) (ls' := [some (.ref 67), some (.int l1), some (.int l2)]) (st' := [.ref 67]) (h' := h) rfl ?_
    refine mX_ckv (v := .ref (gR h 67 0)) (v' := .ref 68) (k' := 96) (ls' := [some (.ref 67), some (.int l1), some (.int l2)]) (st' := []) (h' := h) (k_67 L) (congrArg Value.ref (r_67_0 L)) rfl ?_
    refine mX_to 2 (k' := 98) (ls' := [some (.ref 67), some (.int l1), some (.int l2)]) (st' := [.int 4, .ref 68, .int 4, .ref 68]) (h' := h) rfl ?_
    refine mX_ckv (v := .int (gI h 68 (ix (4 : Int32)))) (v' := .int (gI h 68 4)) (k' := 99) (ls' := [some (.ref 67), some (.int l1), some (.int l2)]) (st' := [.int 4, .ref 68]) (h' := h) ((ckA1 (k_68 L) (n_68 L)).mpr (ib_lit (n := 4) rfl (by decide) (by decide))) (congrArg (fun j => Value.int (gI h 68 j)) (ix_lit (n := 4) rfl (by decide))) rfl ?_
    refine mX_to 2 (k' := 101) (ls' := [some (.ref 67), some (.int l1), some (.int l2)]) (st' := [.int ((gI h 68 4) + 1), .int 4, .ref 68]) (h' := h) rfl ?_
    refine mX_ckt (k' := 102) (ls' := [some (.ref 67), some (.int l1), some (.int l2)]) (st' := []) (h' := (sI h 68 (ix (4 : Int32)) ((gI h 68 4) + 1))) ((ckA0 (k_68 L) (n_68 L)).mpr (ib_lit (n := 4) rfl (by decide) (by decide))) rfl ?_
    refine lt_geq2 (X := fun h16 : MH => mX (mE mtab d) KX11_keep 102 [some (.ref 67), some (.int l1), some (.int l2)] [] h16) (a := (sI h 68 (ix (4 : Int32)) ((gI h 68 4) + 1))) (a' := (sI h 68 4 ((gI h 68 4) + 1))) (congrArg (fun j => sI h 68 j ((gI h 68 4) + 1)) (ix_lit (n := 4) rfl (by decide))) fun h16 eh16 => ?_
    have L16 : lay h16 := eh16 ▸ layI L (by decide)
    exact mX_ret rfl
theorem S_X11_keep {h : MH} (L : lay h) (d : Nat) : F_X11_keep (d + 1) h = (if (gI h 68 4) = 30 then G_X11_keep_8 d 0 h else G_X11_keep_33 d none h) := by
  refine mE_eq (q := (yX11_keep, cX11_keep, 3, none, KX11_keep)) (C := KX11_keep) (ls := [some (.ref 67), none, none]) rfl rfl rfl rfl ?_
  refine mX_to 1 (k' := 1) (ls' := [some (.ref 67), none, none]) (st' := [.ref 67]) (h' := h) rfl ?_
  refine mX_ckv (v := .ref (gR h 67 0)) (v' := .ref 68) (k' := 2) (ls' := [some (.ref 67), none, none]) (st' := []) (h' := h) (k_67 L) (congrArg Value.ref (r_67_0 L)) rfl ?_
  refine mX_to 1 (k' := 3) (ls' := [some (.ref 67), none, none]) (st' := [.int 4, .ref 68]) (h' := h) rfl ?_
  refine mX_ckv (v := .int (gI h 68 (ix (4 : Int32)))) (v' := .int (gI h 68 4)) (k' := 4) (ls' := [some (.ref 67), none, none]) (st' := []) (h' := h) ((ckA1 (k_68 L) (n_68 L)).mpr (ib_lit (n := 4) rfl (by decide) (by decide))) (congrArg (fun j => Value.int (gI h 68 j)) (ix_lit (n := 4) rfl (by decide))) rfl ?_
  refine mX_to 1 (k' := 5) (ls' := [some (.ref 67), none, none]) (st' := [.int 30, .int (gI h 68 4)]) (h' := h) rfl ?_
  refine mX_br (t := 6) (f := 33) (ls' := [some (.ref 67), none, none]) (st' := []) (h' := h) rfl ?_ ?_
  · refine mX_to 2 (k' := 8) (ls' := [some (.ref 67), some (.int 0), none]) (st' := []) (h' := h) rfl ?_
    rfl
  · rfl
theorem S_X11_walk {h : MH} (L : lay h) (d : Nat) (a1 : Int32) (a2 : Int32) : F_X11_walk (d + 1) a1 a2 h = cI (F_X11_canWalk d a1 a2 h) (fun x2 h1 => (if x2 = 0 then some (.int 0, h1) else cV (F_X11_keep d h1) (fun h3 => cV (F_X11_move d a1 a2 h3) (fun h4 => some (.int 1, h4))))) := by
  refine mE_eq (q := (yX11_walk, cX11_walk, 3, (some .boolean), KX11_walk)) (C := KX11_walk) (ls := [some (.ref 67), some (.int a1), some (.int a2)]) rfl rfl rfl rfl ?_
  refine mX_to 3 (k' := 3) (ls' := [some (.ref 67), some (.int a1), some (.int a2)]) (st' := [.int a2, .int a1, .ref 67]) (h' := h) rfl ?_
  refine mX_ckct (m := mcl (mE mtab d 174 [.ref 67, .int a1, .int a2] h) 1 4 [some (.ref 67), some (.int a1), some (.int a2)] []) (k_67 L) rfl ?_
  refine mk_cIe (o := F_X11_canWalk d a1 a2 h) ?_
  intro x2 h1 eh1
  have L1 : lay h1 := lay_call d 174 [.ref 67, .int a1, .int a2] h _ h1 rfl eh1 L
  refine mX_br (t := 5) (f := 7) (ls' := [some (.ref 67), some (.int a1), some (.int a2)]) (st' := []) (h' := h1) rfl ?_ ?_
  · refine mX_to 1 (k' := 6) (ls' := [some (.ref 67), some (.int a1), some (.int a2)]) (st' := [.int 0]) (h' := h1) rfl ?_
    exact mX_retb (by decide) rfl
  · refine mX_to 1 (k' := 8) (ls' := [some (.ref 67), some (.int a1), some (.int a2)]) (st' := [.ref 67]) (h' := h1) rfl ?_
    refine mX_ckct (m := mcl (mE mtab d 175 [.ref 67] h1) 0 9 [some (.ref 67), some (.int a1), some (.int a2)] []) (k_67 L1) rfl ?_
    refine mk_cVe (o := F_X11_keep d h1) ?_
    intro wh3 h3 eh3
    have L3 : lay h3 := lay_call d 175 [.ref 67] h1 _ h3 rfl eh3 L1
    refine mX_to 3 (k' := 12) (ls' := [some (.ref 67), some (.int a1), some (.int a2)]) (st' := [.int a2, .int a1, .ref 67]) (h' := h3) rfl ?_
    refine mX_ckct (m := mcl (mE mtab d 153 [.ref 67, .int a1, .int a2] h3) 0 13 [some (.ref 67), some (.int a1), some (.int a2)] []) (k_67 L3) rfl ?_
    refine mk_cVe (o := F_X11_move d a1 a2 h3) ?_
    intro wh4 h4 eh4
    have L4 : lay h4 := lay_call d 153 [.ref 67, .int a1, .int a2] h3 _ h4 rfl eh4 L3
    refine mX_to 1 (k' := 14) (ls' := [some (.ref 67), some (.int a1), some (.int a2)]) (st' := [.int 1]) (h' := h4) rfl ?_
    exact mX_retb (by decide) rfl
theorem S_X9_goPaired_38 {h : MH} (L : lay h) (d : Nat) (q : Nat) (T : tAt q) (l1 : Int32) (l2 : Int32) (l3 : Int32) (l4 : Int32) (l5 : Int32) (l6 : Int32) : G_X9_goPaired_38 d q l1 l2 l3 l4 l5 l6 h = ck (ib l1 4) (lt_ (sI h (q + 2) (ix l1) l5) fun h16 => ck (ib l3 4) (lt_ (sI h16 (q + 2) (ix l3) l6) fun h18 => some (.int 0, h18))) := by
  refine mX_to 1 (k' := 39) (ls' := [some (.ref q), some (.int l1), some (.int l2), some (.int l3), some (.int l4), some (.int l5), some (.int l6)]) (st' := [.ref q]) (h' := h) rfl ?_
  refine mX_ckv (v := .ref (gR h q 2)) (v' := .ref (q + 2)) (k' := 40) (ls' := [some (.ref q), some (.int l1), some (.int l2), some (.int l3), some (.int l4), some (.int l5), some (.int l6)]) (st' := []) (h' := h) (kT0 L T) (congrArg Value.ref (rT2 L T)) rfl ?_
  refine mX_to 2 (k' := 42) (ls' := [some (.ref q), some (.int l1), some (.int l2), some (.int l3), some (.int l4), some (.int l5), some (.int l6)]) (st' := [.int l5, .int l1, .ref (q + 2)]) (h' := h) rfl ?_
  refine mX_cki (k' := 43) (ls' := [some (.ref q), some (.int l1), some (.int l2), some (.int l3), some (.int l4), some (.int l5), some (.int l6)]) (st' := []) (h' := (sI h (q + 2) (ix l1) l5)) (ckA0 (kT2 L T) (nT2 L T)) rfl fun c15 => ?_
  refine lt_geq2 (X := fun h16 : MH => mX (mE mtab d) KX9_goPaired 43 [some (.ref q), some (.int l1), some (.int l2), some (.int l3), some (.int l4), some (.int l5), some (.int l6)] [] h16) (a := (sI h (q + 2) (ix l1) l5)) (a' := (sI h (q + 2) (ix l1) l5)) rfl fun h16 eh16 => ?_
  have L16 : lay h16 := eh16 ▸ layI L (neT2 T)
  refine mX_to 1 (k' := 44) (ls' := [some (.ref q), some (.int l1), some (.int l2), some (.int l3), some (.int l4), some (.int l5), some (.int l6)]) (st' := [.ref q]) (h' := h16) rfl ?_
  refine mX_ckv (v := .ref (gR h16 q 2)) (v' := .ref (q + 2)) (k' := 45) (ls' := [some (.ref q), some (.int l1), some (.int l2), some (.int l3), some (.int l4), some (.int l5), some (.int l6)]) (st' := []) (h' := h16) (kT0 L16 T) (congrArg Value.ref (rT2 L16 T)) rfl ?_
  refine mX_to 2 (k' := 47) (ls' := [some (.ref q), some (.int l1), some (.int l2), some (.int l3), some (.int l4), some (.int l5), some (.int l6)]) (st' := [.int l6, .int l3, .ref (q + 2)]) (h' := h16) rfl ?_
  refine mX_cki (k' := 48) (ls' := [some (.ref q), some (.int l1), some (.int l2), some (.int l3), some (.int l4), some (.int l5), some (.int l6)]) (st' := []) (h' := (sI h16 (q + 2) (ix l3) l6)) (ckA0 (kT2 L16 T) (nT2 L16 T)) rfl fun c17 => ?_
  refine lt_geq2 (X := fun h18 : MH => mX (mE mtab d) KX9_goPaired 48 [some (.ref q), some (.int l1), some (.int l2), some (.int l3), some (.int l4), some (.int l5), some (.int l6)] [] h18) (a := (sI h16 (q + 2) (ix l3) l6)) (a' := (sI h16 (q + 2) (ix l3) l6)) rfl fun h18 eh18 => ?_
  have L18 : lay h18 := eh18 ▸ layI L16 (neT2 T)
  refine mX_to 1 (k' := 49) (ls' := [some (.ref q), some (.int l1), some (.int l2), some (.int l3), some (.int l4), some (.int l5), some (.int l6)]) (st' := [.int 0]) (h' := h18) rfl ?_
  exact mX_retb (by decide) rfl
theorem S_X9_goPaired {h : MH} (L : lay h) (d : Nat) (q : Nat) (a1 : Int32) (a2 : Int32) (a3 : Int32) (a4 : Int32) (T : tAt q) : F_X9_goPaired (d + 1) q a1 a2 a3 a4 h = (if a1 = a3 then some (.int 0, h) else cI (F_X9_has d q a1 h) (fun x2 h1 => (if x2 = 0 then some (.int 0, h1) else cI (F_X9_has d q a3 h1) (fun x4 h3 => (if x4 = 0 then some (.int 0, h3) else ck (ib a1 4) (lt_ (gI h3 (q + 2) (ix a1)) fun v5 => ck (ib a3 4) (lt_ (gI h3 (q + 2) (ix a3)) fun v6 => cI (F_X9_shift d q a1 a2 h3) (fun x8 h7 => (if x8 = 0 then G_X9_goPaired_38 d q a1 a2 a3 a4 v5 v6 h7 else cI (F_X9_shift d q a3 a4 h7) (fun x10 h9 => (if x10 = 0 then G_X9_goPaired_38 d q a1 a2 a3 a4 v5 v6 h9 else cI (F_X9_holdsStill d q h9) (fun x12 h11 => (if x12 = 0 then G_X9_goPaired_38 d q a1 a2 a3 a4 v5 v6 h11 else some (.int 1, h11)))))))))))))) := by
  refine mE_eq (q := (yX9_goPaired, cX9_goPaired, 7, (some .boolean), KX9_goPaired)) (C := KX9_goPaired) (ls := [some (.ref q), some (.int a1), some (.int a2), some (.int a3), some (.int a4), none, none]) rfl rfl rfl rfl ?_
  refine mX_to 2 (k' := 2) (ls' := [some (.ref q), some (.int a1), some (.int a2), some (.int a3), some (.int a4), none, none]) (st' := [.int a3, .int a1]) (h' := h) rfl ?_
  refine mX_br (t := 11) (f := 3) (ls' := [some (.ref q), some (.int a1), some (.int a2), some (.int a3), some (.int a4), none, none]) (st' := []) (h' := h) rfl ?_ ?_
  · refine mX_to 1 (k' := 12) (ls' := [some (.ref q), some (.int a1), some (.int a2), some (.int a3), some (.int a4), none, none]) (st' := [.int 0]) (h' := h) rfl ?_
    exact mX_retb (by decide) rfl
  · refine mX_to 2 (k' := 5) (ls' := [some (.ref q), some (.int a1), some (.int a2), some (.int a3), some (.int a4), none, none]) (st' := [.int a1, .ref q]) (h' := h) rfl ?_
    refine mX_ckct (m := mcl (mE mtab d 17 [.ref q, .int a1] h) 1 6 [some (.ref q), some (.int a1), some (.int a2), some (.int a3), some (.int a4), none, none] []) (kT0 L T) rfl ?_
    refine mk_cIe (o := F_X9_has d q a1 h) ?_
    intro x2 h1 eh1
    have L1 : lay h1 := lay_call d 17 [.ref q, .int a1] h _ h1 rfl eh1 L
    refine mX_br (t := 11) (f := 7) (ls' := [some (.ref q), some (.int a1), some (.int a2), some (.int a3), some (.int a4), none, none]) (st' := []) (h' := h1) rfl ?_ ?_
    · refine mX_to 1 (k' := 12) (ls' := [some (.ref q), some (.int a1), some (.int a2), some (.int a3), some (.int a4), none, none]) (st' := [.int 0]) (h' := h1) rfl ?_
      exact mX_retb (by decide) rfl
    · refine mX_to 2 (k' := 9) (ls' := [some (.ref q), some (.int a1), some (.int a2), some (.int a3), some (.int a4), none, none]) (st' := [.int a3, .ref q]) (h' := h1) rfl ?_
      refine mX_ckct (m := mcl (mE mtab d 17 [.ref q, .int a3] h1) 1 10 [some (.ref q), some (.int a1), some (.int a2), some (.int a3), some (.int a4), none, none] []) (kT0 L1 T) rfl ?_
      refine mk_cIe (o := F_X9_has d q a3 h1) ?_
      intro x4 h3 eh3
      have L3 : lay h3 := lay_call d 17 [.ref q, .int a3] h1 _ h3 rfl eh3 L1
      refine mX_br (t := 11) (f := 13) (ls' := [some (.ref q), some (.int a1), some (.int a2), some (.int a3), some (.int a4), none, none]) (st' := []) (h' := h3) rfl ?_ ?_
      · refine mX_to 1 (k' := 12) (ls' := [some (.ref q), some (.int a1), some (.int a2), some (.int a3), some (.int a4), none, none]) (st' := [.int 0]) (h' := h3) rfl ?_
        exact mX_retb (by decide) rfl
      · refine mX_to 1 (k' := 14) (ls' := [some (.ref q), some (.int a1), some (.int a2), some (.int a3), some (.int a4), none, none]) (st' := [.ref q]) (h' := h3) rfl ?_
        refine mX_ckv (v := .ref (gR h3 q 2)) (v' := .ref (q + 2)) (k' := 15) (ls' := [some (.ref q), some (.int a1), some (.int a2), some (.int a3), some (.int a4), none, none]) (st' := []) (h' := h3) (kT0 L3 T) (congrArg Value.ref (rT2 L3 T)) rfl ?_
        refine mX_to 1 (k' := 16) (ls' := [some (.ref q), some (.int a1), some (.int a2), some (.int a3), some (.int a4), none, none]) (st' := [.int a1, .ref (q + 2)]) (h' := h3) rfl ?_
        refine mX_ckw (v := .int (gI h3 (q + 2) (ix a1))) (v' := .int (gI h3 (q + 2) (ix a1))) (k' := 17) (ls' := [some (.ref q), some (.int a1), some (.int a2), some (.int a3), some (.int a4), none, none]) (st' := []) (h' := h3) (ckA1 (kT2 L3 T) (nT2 L3 T)) rfl rfl fun c14 => ?_
        refine lt_gen (X := fun v5 : Int32 => mX (mE mtab d) KX9_goPaired 17 [some (.ref q), some (.int a1), some (.int a2), some (.int a3), some (.int a4), none, none] [.int v5] h3) fun v5 => ?_
        refine mX_to 2 (k' := 19) (ls' := [some (.ref q), some (.int a1), some (.int a2), some (.int a3), some (.int a4), some (.int v5), none]) (st' := [.ref q]) (h' := h3) rfl ?_
        refine mX_ckv (v := .ref (gR h3 q 2)) (v' := .ref (q + 2)) (k' := 20) (ls' := [some (.ref q), some (.int a1), some (.int a2), some (.int a3), some (.int a4), some (.int v5), none]) (st' := []) (h' := h3) (kT0 L3 T) (congrArg Value.ref (rT2 L3 T)) rfl ?_
        refine mX_to 1 (k' := 21) (ls' := [some (.ref q), some (.int a1), some (.int a2), some (.int a3), some (.int a4), some (.int v5), none]) (st' := [.int a3, .ref (q + 2)]) (h' := h3) rfl ?_
        refine mX_ckw (v := .int (gI h3 (q + 2) (ix a3))) (v' := .int (gI h3 (q + 2) (ix a3))) (k' := 22) (ls' := [some (.ref q), some (.int a1), some (.int a2), some (.int a3), some (.int a4), some (.int v5), none]) (st' := []) (h' := h3) (ckA1 (kT2 L3 T) (nT2 L3 T)) rfl rfl fun c13 => ?_
        refine lt_gen (X := fun v6 : Int32 => mX (mE mtab d) KX9_goPaired 22 [some (.ref q), some (.int a1), some (.int a2), some (.int a3), some (.int a4), some (.int v5), none] [.int v6] h3) fun v6 => ?_
        refine mX_to 4 (k' := 26) (ls' := [some (.ref q), some (.int a1), some (.int a2), some (.int a3), some (.int a4), some (.int v5), some (.int v6)]) (st' := [.int a2, .int a1, .ref q]) (h' := h3) rfl ?_
        refine mX_ckct (m := mcl (mE mtab d 138 [.ref q, .int a1, .int a2] h3) 1 27 [some (.ref q), some (.int a1), some (.int a2), some (.int a3), some (.int a4), some (.int v5), some (.int v6)] []) (kT0 L3 T) rfl ?_
        refine mk_cIe (o := F_X9_shift d q a1 a2 h3) ?_
        intro x8 h7 eh7
        have L7 : lay h7 := lay_call d 138 [.ref q, .int a1, .int a2] h3 _ h7 rfl eh7 L3
        refine mX_br (t := 38) (f := 28) (ls' := [some (.ref q), some (.int a1), some (.int a2), some (.int a3), some (.int a4), some (.int v5), some (.int v6)]) (st' := []) (h' := h7) rfl ?_ ?_
        · rfl
        · refine mX_to 3 (k' := 31) (ls' := [some (.ref q), some (.int a1), some (.int a2), some (.int a3), some (.int a4), some (.int v5), some (.int v6)]) (st' := [.int a4, .int a3, .ref q]) (h' := h7) rfl ?_
          refine mX_ckct (m := mcl (mE mtab d 138 [.ref q, .int a3, .int a4] h7) 1 32 [some (.ref q), some (.int a1), some (.int a2), some (.int a3), some (.int a4), some (.int v5), some (.int v6)] []) (kT0 L7 T) rfl ?_
          refine mk_cIe (o := F_X9_shift d q a3 a4 h7) ?_
          intro x10 h9 eh9
          have L9 : lay h9 := lay_call d 138 [.ref q, .int a3, .int a4] h7 _ h9 rfl eh9 L7
          refine mX_br (t := 38) (f := 33) (ls' := [some (.ref q), some (.int a1), some (.int a2), some (.int a3), some (.int a4), some (.int v5), some (.int v6)]) (st' := []) (h' := h9) rfl ?_ ?_
          · rfl
          · refine mX_to 1 (k' := 34) (ls' := [some (.ref q), some (.int a1), some (.int a2), some (.int a3), some (.int a4), some (.int v5), some (.int v6)]) (st' := [.ref q]) (h' := h9) rfl ?_
            refine mX_ckct (m := mcl (mE mtab d 146 [.ref q] h9) 1 35 [some (.ref q), some (.int a1), some (.int a2), some (.int a3), some (.int a4), some (.int v5), some (.int v6)] []) (kT0 L9 T) rfl ?_
            refine mk_cIe (o := F_X9_holdsStill d q h9) ?_
            intro x12 h11 eh11
            have L11 : lay h11 := lay_call d 146 [.ref q] h9 _ h11 rfl eh11 L9
            refine mX_br (t := 38) (f := 36) (ls' := [some (.ref q), some (.int a1), some (.int a2), some (.int a3), some (.int a4), some (.int v5), some (.int v6)]) (st' := []) (h' := h11) rfl ?_ ?_
            · rfl
            · refine mX_to 1 (k' := 37) (ls' := [some (.ref q), some (.int a1), some (.int a2), some (.int a3), some (.int a4), some (.int v5), some (.int v6)]) (st' := [.int 1]) (h' := h11) rfl ?_
              exact mX_retb (by decide) rfl
