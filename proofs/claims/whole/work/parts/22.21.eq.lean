--deps:19.lay 21.facts 22.00.names
/-! EQUATIONS over the fixed cells (written by wip/gen/sgen.py) -/
theorem S_X10_swap_10 {h : MH} (L : lay h) (d : Nat) (l1 : Int32) (l3 : Int32) (l4 : Int32) (l5 : Int32) (o6 : Option Value) (o7 : Option Value) : G_X10_swap_10 d l1 l3 l4 l5 o6 o7 h = (if l5 < (gI h 10 0) then G_X10_swap_18 d l1 l3 l4 l5 (l5 + 1) (o7) h else (if l1 = 0 then some (.int l3, h) else some (.int l4, h))) := by
  refine mX_to 2 (k' := 12) (ls' := [some (.ref 8), some (.int l1), some (.ref 10), some (.int l3), some (.int l4), some (.int l5), o6, o7]) (st' := [.ref 10, .int l5]) (h' := h) rfl ?_
  refine mX_ckv (v := .int (gI h 10 0)) (v' := .int (gI h 10 0)) (k' := 13) (ls' := [some (.ref 8), some (.int l1), some (.ref 10), some (.int l3), some (.int l4), some (.int l5), o6, o7]) (st' := [.int l5]) (h' := h) (k_10 L) rfl rfl ?_
  refine mX_br (t := 14) (f := 47) (ls' := [some (.ref 8), some (.int l1), some (.ref 10), some (.int l3), some (.int l4), some (.int l5), o6, o7]) (st' := []) (h' := h) rfl ?_ ?_
  · refine mX_to 4 (k' := 18) (ls' := [some (.ref 8), some (.int l1), some (.ref 10), some (.int l3), some (.int l4), some (.int l5), some (.int (l5 + 1)), o7]) (st' := []) (h' := h) rfl ?_
    rfl
  · refine mX_to 1 (k' := 48) (ls' := [some (.ref 8), some (.int l1), some (.ref 10), some (.int l3), some (.int l4), some (.int l5), o6, o7]) (st' := [.int l1]) (h' := h) rfl ?_
    refine mX_br (t := 51) (f := 49) (ls' := [some (.ref 8), some (.int l1), some (.ref 10), some (.int l3), some (.int l4), some (.int l5), o6, o7]) (st' := []) (h' := h) rfl ?_ ?_
    · refine mX_to 1 (k' := 52) (ls' := [some (.ref 8), some (.int l1), some (.ref 10), some (.int l3), some (.int l4), some (.int l5), o6, o7]) (st' := [.int l3]) (h' := h) rfl ?_
      exact mX_reti rfl
    · refine mX_to 2 (k' := 52) (ls' := [some (.ref 8), some (.int l1), some (.ref 10), some (.int l3), some (.int l4), some (.int l5), o6, o7]) (st' := [.int l4]) (h' := h) rfl ?_
      exact mX_reti rfl
theorem S_X10_swap_18 {h : MH} (L : lay h) (d : Nat) (l1 : Int32) (l3 : Int32) (l4 : Int32) (l5 : Int32) (l6 : Int32) (o7 : Option Value) : G_X10_swap_18 d l1 l3 l4 l5 l6 o7 h = (if l6 < (gI h 10 0) then cI (F_X9_tipSwapped d 10 l5 l6 h) (fun x2 h1 => (if l4 = (-1) then G_X10_swap_35 d l1 l3 l4 l5 l6 x2 h1 else (if (jabs x2) < (jabs l3) then G_X10_swap_35 d l1 l3 l4 l5 l6 x2 h1 else G_X10_swap_43 d l1 l3 l4 l5 l6 x2 h1))) else G_X10_swap_10 d l1 l3 l4 (l5 + 1) (some (.int l6)) (o7) h) := by
  refine mX_to 2 (k' := 20) (ls' := [some (.ref 8), some (.int l1), some (.ref 10), some (.int l3), some (.int l4), some (.int l5), some (.int l6), o7]) (st' := [.ref 10, .int l6]) (h' := h) rfl ?_
  refine mX_ckv (v := .int (gI h 10 0)) (v' := .int (gI h 10 0)) (k' := 21) (ls' := [some (.ref 8), some (.int l1), some (.ref 10), some (.int l3), some (.int l4), some (.int l5), some (.int l6), o7]) (st' := [.int l6]) (h' := h) (k_10 L) rfl rfl ?_
  refine mX_br (t := 22) (f := 45) (ls' := [some (.ref 8), some (.int l1), some (.ref 10), some (.int l3), some (.int l4), some (.int l5), some (.int l6), o7]) (st' := []) (h' := h) rfl ?_ ?_
  · refine mX_to 3 (k' := 25) (ls' := [some (.ref 8), some (.int l1), some (.ref 10), some (.int l3), some (.int l4), some (.int l5), some (.int l6), o7]) (st' := [.int l6, .int l5, .ref 10]) (h' := h) rfl ?_
    refine mX_ckct (m := mcl (mE mtab d 305 [.ref 10, .int l5, .int l6] h) 1 26 [some (.ref 8), some (.int l1), some (.ref 10), some (.int l3), some (.int l4), some (.int l5), some (.int l6), o7] []) (k_10 L) rfl ?_
    refine mk_cIe (o := F_X9_tipSwapped d 10 l5 l6 h) ?_
    intro x2 h1 eh1
    have L1 : lay h1 := lay_call d 305 [.ref 10, .int l5, .int l6] h _ h1 rfl eh1 L
    refine mX_to 3 (k' := 29) (ls' := [some (.ref 8), some (.int l1), some (.ref 10), some (.int l3), some (.int l4), some (.int l5), some (.int l6), some (.int x2)]) (st' := [.int (-1), .int l4]) (h' := h1) rfl ?_
    refine mX_br (t := 35) (f := 30) (ls' := [some (.ref 8), some (.int l1), some (.ref 10), some (.int l3), some (.int l4), some (.int l5), some (.int l6), some (.int x2)]) (st' := []) (h' := h1) rfl ?_ ?_
    · rfl
    · refine mX_to 4 (k' := 34) (ls' := [some (.ref 8), some (.int l1), some (.ref 10), some (.int l3), some (.int l4), some (.int l5), some (.int l6), some (.int x2)]) (st' := [.int (jabs l3), .int (jabs x2)]) (h' := h1) rfl ?_
      refine mX_br (t := 35) (f := 43) (ls' := [some (.ref 8), some (.int l1), some (.ref 10), some (.int l3), some (.int l4), some (.int l5), some (.int l6), some (.int x2)]) (st' := []) (h' := h1) rfl ?_ ?_
      · rfl
      · rfl
  · refine mX_to 2 (k' := 10) (ls' := [some (.ref 8), some (.int l1), some (.ref 10), some (.int l3), some (.int l4), some (.int (l5 + 1)), some (.int l6), o7]) (st' := []) (h' := h) rfl ?_
    rfl
theorem S_X10_swap_35 {h : MH} (L : lay h) (d : Nat) (l1 : Int32) (l3 : Int32) (l4 : Int32) (l5 : Int32) (l6 : Int32) (l7 : Int32) : G_X10_swap_35 d l1 l3 l4 l5 l6 l7 h = lt_ ((10 * l5) + l6) fun v3 => G_X10_swap_43 d l1 l7 v3 l5 l6 l7 h := by
  refine mX_to 7 (k' := 42) (ls' := [some (.ref 8), some (.int l1), some (.ref 10), some (.int l7), some (.int l4), some (.int l5), some (.int l6), some (.int l7)]) (st' := [.int ((10 * l5) + l6)]) (h' := h) rfl ?_
  refine lt_gen (X := fun v3 : Int32 => mX (mE mtab d) KX10_swap 42 [some (.ref 8), some (.int l1), some (.ref 10), some (.int l7), some (.int l4), some (.int l5), some (.int l6), some (.int l7)] [.int v3] h) fun v3 => ?_
  refine mX_to 1 (k' := 43) (ls' := [some (.ref 8), some (.int l1), some (.ref 10), some (.int l7), some (.int v3), some (.int l5), some (.int l6), some (.int l7)]) (st' := []) (h' := h) rfl ?_
  rfl
theorem S_X10_swap_43 {h : MH} (L : lay h) (d : Nat) (l1 : Int32) (l3 : Int32) (l4 : Int32) (l5 : Int32) (l6 : Int32) (l7 : Int32) : G_X10_swap_43 d l1 l3 l4 l5 l6 l7 h = G_X10_swap_18 d l1 l3 l4 l5 (l6 + 1) (some (.int l7)) h := by
  refine mX_to 2 (k' := 18) (ls' := [some (.ref 8), some (.int l1), some (.ref 10), some (.int l3), some (.int l4), some (.int l5), some (.int (l6 + 1)), some (.int l7)]) (st' := []) (h' := h) rfl ?_
  rfl
theorem S_X10_swap {h : MH} (L : lay h) (d : Nat) (a1 : Int32) : F_X10_swap (d + 1) a1 h = G_X10_swap_10 d a1 (-1000) (-1) 0 none none h := by
  refine mE_eq (q := (yX10_swap, cX10_swap, 8, (some .int), KX10_swap)) (C := KX10_swap) (ls := [some (.ref 8), some (.int a1), none, none, none, none, none, none]) rfl rfl rfl rfl ?_
  refine mX_to 1 (k' := 1) (ls' := [some (.ref 8), some (.int a1), none, none, none, none, none, none]) (st' := [.ref 8]) (h' := h) rfl ?_
  refine mX_ckv (v := .ref (gR h 8 0)) (v' := .ref 9) (k' := 2) (ls' := [some (.ref 8), some (.int a1), none, none, none, none, none, none]) (st' := []) (h' := h) (k_8 L) (congrArg Value.ref (r_8_0 L)) rfl ?_
  refine mX_ckv (v := .ref (gR h 9 0)) (v' := .ref 10) (k' := 3) (ls' := [some (.ref 8), some (.int a1), none, none, none, none, none, none]) (st' := []) (h' := h) (k_9 L) (congrArg Value.ref (r_9_0 L)) rfl ?_
  refine mX_to 7 (k' := 10) (ls' := [some (.ref 8), some (.int a1), some (.ref 10), some (.int (-1000)), some (.int (-1)), some (.int 0), none, none]) (st' := []) (h' := h) rfl ?_
  rfl
theorem S_X11_swapped {h : MH} (L : lay h) (d : Nat) (a1 : Int32) (a2 : Int32) : F_X11_swapped (d + 1) a1 a2 h = cI (F_X11_tipNow d h) (fun x2 h1 => ck (ib (22 + a1) 1498) (ck (ib (22 + a2) 1498) (ck (ib (9 + a2) 1498) (ck (ib (9 + a1) 1498) (some (.int (x2 + (((gI h1 68 (ix (22 + a1))) - (gI h1 68 (ix (22 + a2)))) * ((gI h1 68 (ix (9 + a2))) - (gI h1 68 (ix (9 + a1)))))), h1)))))) := by
  refine mE_eq (q := (yX11_swapped, cX11_swapped, 3, (some .int), KX11_swapped)) (C := KX11_swapped) (ls := [some (.ref 67), some (.int a1), some (.int a2)]) rfl rfl rfl rfl ?_
  refine mX_to 1 (k' := 1) (ls' := [some (.ref 67), some (.int a1), some (.int a2)]) (st' := [.ref 67]) (h' := h) rfl ?_
  refine mX_ckct (m := mcl (mE mtab d 156 [.ref 67] h) 1 2 [some (.ref 67), some (.int a1), some (.int a2)] []) (k_67 L) rfl ?_
  refine mk_cIe (o := F_X11_tipNow d h) ?_
  intro x2 h1 eh1
  have L1 : lay h1 := lay_call d 156 [.ref 67] h _ h1 rfl eh1 L
  refine mX_to 1 (k' := 3) (ls' := [some (.ref 67), some (.int a1), some (.int a2)]) (st' := [.ref 67, .int x2]) (h' := h1) rfl ?_
  refine mX_ckv (v := .ref (gR h1 67 0)) (v' := .ref 68) (k' := 4) (ls' := [some (.ref 67), some (.int a1), some (.int a2)]) (st' := [.int x2]) (h' := h1) (k_67 L1) (congrArg Value.ref (r_67_0 L1)) rfl ?_
  refine mX_to 3 (k' := 7) (ls' := [some (.ref 67), some (.int a1), some (.int a2)]) (st' := [.int (22 + a1), .ref 68, .int x2]) (h' := h1) rfl ?_
  refine mX_ckw (v := .int (gI h1 68 (ix (22 + a1)))) (v' := .int (gI h1 68 (ix (22 + a1)))) (k' := 8) (ls' := [some (.ref 67), some (.int a1), some (.int a2)]) (st' := [.int x2]) (h' := h1) (ckA1 (k_68 L1) (n_68 L1)) rfl rfl fun c6 => ?_
  refine mX_to 1 (k' := 9) (ls' := [some (.ref 67), some (.int a1), some (.int a2)]) (st' := [.ref 67, .int (gI h1 68 (ix (22 + a1))), .int x2]) (h' := h1) rfl ?_
  refine mX_ckv (v := .ref (gR h1 67 0)) (v' := .ref 68) (k' := 10) (ls' := [some (.ref 67), some (.int a1), some (.int a2)]) (st' := [.int (gI h1 68 (ix (22 + a1))), .int x2]) (h' := h1) (k_67 L1) (congrArg Value.ref (r_67_0 L1)) rfl ?_
  refine mX_to 3 (k' := 13) (ls' := [some (.ref 67), some (.int a1), some (.int a2)]) (st' := [.int (22 + a2), .ref 68, .int (gI h1 68 (ix (22 + a1))), .int x2]) (h' := h1) rfl ?_
  refine mX_ckw (v := .int (gI h1 68 (ix (22 + a2)))) (v' := .int (gI h1 68 (ix (22 + a2)))) (k' := 14) (ls' := [some (.ref 67), some (.int a1), some (.int a2)]) (st' := [.int (gI h1 68 (ix (22 + a1))), .int x2]) (h' := h1) (ckA1 (k_68 L1) (n_68 L1)) rfl rfl fun c5 => ?_
  refine mX_to 2 (k' := 16) (ls' := [some (.ref 67), some (.int a1), some (.int a2)]) (st' := [.ref 67, .int ((gI h1 68 (ix (22 + a1))) - (gI h1 68 (ix (22 + a2)))), .int x2]) (h' := h1) rfl ?_
  refine mX_ckv (v := .ref (gR h1 67 0)) (v' := .ref 68) (k' := 17) (ls' := [some (.ref 67), some (.int a1), some (.int a2)]) (st' := [.int ((gI h1 68 (ix (22 + a1))) - (gI h1 68 (ix (22 + a2)))), .int x2]) (h' := h1) (k_67 L1) (congrArg Value.ref (r_67_0 L1)) rfl ?_
  refine mX_to 3 (k' := 20) (ls' := [some (.ref 67), some (.int a1), some (.int a2)]) (st' := [.int (9 + a2), .ref 68, .int ((gI h1 68 (ix (22 + a1))) - (gI h1 68 (ix (22 + a2)))), .int x2]) (h' := h1) rfl ?_
  refine mX_ckw (v := .int (gI h1 68 (ix (9 + a2)))) (v' := .int (gI h1 68 (ix (9 + a2)))) (k' := 21) (ls' := [some (.ref 67), some (.int a1), some (.int a2)]) (st' := [.int ((gI h1 68 (ix (22 + a1))) - (gI h1 68 (ix (22 + a2)))), .int x2]) (h' := h1) (ckA1 (k_68 L1) (n_68 L1)) rfl rfl fun c4 => ?_
  refine mX_to 1 (k' := 22) (ls' := [some (.ref 67), some (.int a1), some (.int a2)]) (st' := [.ref 67, .int (gI h1 68 (ix (9 + a2))), .int ((gI h1 68 (ix (22 + a1))) - (gI h1 68 (ix (22 + a2)))), .int x2]) (h' := h1) rfl ?_
  refine mX_ckv (v := .ref (gR h1 67 0)) (v' := .ref 68) (k' := 23) (ls' := [some (.ref 67), some (.int a1), some (.int a2)]) (st' := [.int (gI h1 68 (ix (9 + a2))), .int ((gI h1 68 (ix (22 + a1))) - (gI h1 68 (ix (22 + a2)))), .int x2]) (h' := h1) (k_67 L1) (congrArg Value.ref (r_67_0 L1)) rfl ?_
  refine mX_to 3 (k' := 26) (ls' := [some (.ref 67), some (.int a1), some (.int a2)]) (st' := [.int (9 + a1), .ref 68, .int (gI h1 68 (ix (9 + a2))), .int ((gI h1 68 (ix (22 + a1))) - (gI h1 68 (ix (22 + a2)))), .int x2]) (h' := h1) rfl ?_
  refine mX_ckw (v := .int (gI h1 68 (ix (9 + a1)))) (v' := .int (gI h1 68 (ix (9 + a1)))) (k' := 27) (ls' := [some (.ref 67), some (.int a1), some (.int a2)]) (st' := [.int (gI h1 68 (ix (9 + a2))), .int ((gI h1 68 (ix (22 + a1))) - (gI h1 68 (ix (22 + a2)))), .int x2]) (h' := h1) (ckA1 (k_68 L1) (n_68 L1)) rfl rfl fun c3 => ?_
  refine mX_to 3 (k' := 30) (ls' := [some (.ref 67), some (.int a1), some (.int a2)]) (st' := [.int (x2 + (((gI h1 68 (ix (22 + a1))) - (gI h1 68 (ix (22 + a2)))) * ((gI h1 68 (ix (9 + a2))) - (gI h1 68 (ix (9 + a1))))))]) (h' := h1) rfl ?_
  exact mX_reti rfl
theorem S_X11_swap_4 {h : MH} (L : lay h) (d : Nat) (l1 : Int32) (l2 : Int32) (l3 : Int32) (o4 : Option Value) : G_X11_swap_4 d l1 l2 l3 o4 h = (if l3 < (gI h 68 0) then G_X11_swap_14 d l1 l2 l3 (l3 + 1) h else (if l1 = 0 then (if l2 = (-1) then some (.int (-1000), h) else cI (F_X11_swapped d (l2 / 10) (l2 - l2 / 10 * 10) h) (fun x2 h1 => some (.int x2, h1))) else some (.int l2, h))) := by
  refine mX_to 2 (k' := 6) (ls' := [some (.ref 67), some (.int l1), some (.int l2), some (.int l3), o4]) (st' := [.ref 67, .int l3]) (h' := h) rfl ?_
  refine mX_ckv (v := .ref (gR h 67 0)) (v' := .ref 68) (k' := 7) (ls' := [some (.ref 67), some (.int l1), some (.int l2), some (.int l3), o4]) (st' := [.int l3]) (h' := h) (k_67 L) (congrArg Value.ref (r_67_0 L)) rfl ?_
  refine mX_to 1 (k' := 8) (ls' := [some (.ref 67), some (.int l1), some (.int l2), some (.int l3), o4]) (st' := [.int 0, .ref 68, .int l3]) (h' := h) rfl ?_
  refine mX_ckv (v := .int (gI h 68 (ix (0 : Int32)))) (v' := .int (gI h 68 0)) (k' := 9) (ls' := [some (.ref 67), some (.int l1), some (.int l2), some (.int l3), o4]) (st' := [.int l3]) (h' := h) ((ckA1 (k_68 L) (n_68 L)).mpr (ib_lit (n := 0) rfl (by decide) (by decide))) (congrArg (fun j => Value.int (gI h 68 j)) (ix_lit (n := 0) rfl (by decide))) rfl ?_
  refine mX_br (t := 10) (f := 48) (ls' := [some (.ref 67), some (.int l1), some (.int l2), some (.int l3), o4]) (st' := []) (h' := h) rfl ?_ ?_
  · refine mX_to 4 (k' := 14) (ls' := [some (.ref 67), some (.int l1), some (.int l2), some (.int l3), some (.int (l3 + 1))]) (st' := []) (h' := h) rfl ?_
    rfl
  · refine mX_to 1 (k' := 49) (ls' := [some (.ref 67), some (.int l1), some (.int l2), some (.int l3), o4]) (st' := [.int l1]) (h' := h) rfl ?_
    refine mX_br (t := 52) (f := 50) (ls' := [some (.ref 67), some (.int l1), some (.int l2), some (.int l3), o4]) (st' := []) (h' := h) rfl ?_ ?_
    · refine mX_to 2 (k' := 54) (ls' := [some (.ref 67), some (.int l1), some (.int l2), some (.int l3), o4]) (st' := [.int (-1), .int l2]) (h' := h) rfl ?_
      refine mX_br (t := 55) (f := 57) (ls' := [some (.ref 67), some (.int l1), some (.int l2), some (.int l3), o4]) (st' := []) (h' := h) rfl ?_ ?_
      · refine mX_to 2 (k' := 65) (ls' := [some (.ref 67), some (.int l1), some (.int l2), some (.int l3), o4]) (st' := [.int (-1000)]) (h' := h) rfl ?_
        exact mX_reti rfl
      · refine mX_to 3 (k' := 60) (ls' := [some (.ref 67), some (.int l1), some (.int l2), some (.int l3), o4]) (st' := [.int 10, .int l2, .ref 67]) (h' := h) rfl ?_
        refine mX_ckt (c := ¬ (10 : Int32) = 0) (k' := 61) (ls' := [some (.ref 67), some (.int l1), some (.int l2), some (.int l3), o4]) (st' := [.int (l2 / 10), .ref 67]) (h' := h) (by decide) rfl ?_
        refine mX_to 2 (k' := 63) (ls' := [some (.ref 67), some (.int l1), some (.int l2), some (.int l3), o4]) (st' := [.int 10, .int l2, .int (l2 / 10), .ref 67]) (h' := h) rfl ?_
        refine mX_ckt (c := ¬ (10 : Int32) = 0) (k' := 64) (ls' := [some (.ref 67), some (.int l1), some (.int l2), some (.int l3), o4]) (st' := [.int (l2 - l2 / 10 * 10), .int (l2 / 10), .ref 67]) (h' := h) (by decide) rfl ?_
        refine mX_ckct (m := mcl (mE mtab d 307 [.ref 67, .int (l2 / 10), .int (l2 - l2 / 10 * 10)] h) 1 65 [some (.ref 67), some (.int l1), some (.int l2), some (.int l3), o4] []) (k_67 L) rfl ?_
        refine mk_cIe (o := F_X11_swapped d (l2 / 10) (l2 - l2 / 10 * 10) h) ?_
        intro x2 h1 eh1
        have L1 : lay h1 := lay_call d 307 [.ref 67, .int (l2 / 10), .int (l2 - l2 / 10 * 10)] h _ h1 rfl eh1 L
        exact mX_reti rfl
    · refine mX_to 2 (k' := 65) (ls' := [some (.ref 67), some (.int l1), some (.int l2), some (.int l3), o4]) (st' := [.int l2]) (h' := h) rfl ?_
      exact mX_reti rfl
theorem S_X11_swap_14 {h : MH} (L : lay h) (d : Nat) (l1 : Int32) (l2 : Int32) (l3 : Int32) (l4 : Int32) : G_X11_swap_14 d l1 l2 l3 l4 h = (if l4 < (gI h 68 0) then (if l2 = (-1) then G_X11_swap_38 d l1 l2 l3 l4 h else cI (F_X11_swapped d l3 l4 h) (fun x4 h3 => cI (F_X11_size d x4 h3) (fun x6 h5 => cI (F_X11_swapped d (l2 / 10) (l2 - l2 / 10 * 10) h5) (fun x8 h7 => cI (F_X11_size d x8 h7) (fun x10 h9 => (if x6 < x10 then G_X11_swap_38 d l1 l2 l3 l4 h9 else G_X11_swap_44 d l1 l2 l3 l4 h9)))))) else G_X11_swap_4 d l1 l2 (l3 + 1) (some (.int l4)) h) := by
  refine mX_to 2 (k' := 16) (ls' := [some (.ref 67), some (.int l1), some (.int l2), some (.int l3), some (.int l4)]) (st' := [.ref 67, .int l4]) (h' := h) rfl ?_
  refine mX_ckv (v := .ref (gR h 67 0)) (v' := .ref 68) (k' := 17) (ls' := [some (.ref 67), some (.int l1), some (.int l2), some (.int l3), some (.int l4)]) (st' := [.int l4]) (h' := h) (k_67 L) (congrArg Value.ref (r_67_0 L)) rfl ?_
  refine mX_to 1 (k' := 18) (ls' := [some (.ref 67), some (.int l1), some (.int l2), some (.int l3), some (.int l4)]) (st' := [.int 0, .ref 68, .int l4]) (h' := h) rfl ?_
  refine mX_ckv (v := .int (gI h 68 (ix (0 : Int32)))) (v' := .int (gI h 68 0)) (k' := 19) (ls' := [some (.ref 67), some (.int l1), some (.int l2), some (.int l3), some (.int l4)]) (st' := [.int l4]) (h' := h) ((ckA1 (k_68 L) (n_68 L)).mpr (ib_lit (n := 0) rfl (by decide) (by decide))) (congrArg (fun j => Value.int (gI h 68 j)) (ix_lit (n := 0) rfl (by decide))) rfl ?_
  refine mX_br (t := 20) (f := 46) (ls' := [some (.ref 67), some (.int l1), some (.int l2), some (.int l3), some (.int l4)]) (st' := []) (h' := h) rfl ?_ ?_
  · refine mX_to 2 (k' := 22) (ls' := [some (.ref 67), some (.int l1), some (.int l2), some (.int l3), some (.int l4)]) (st' := [.int (-1), .int l2]) (h' := h) rfl ?_
    refine mX_br (t := 38) (f := 23) (ls' := [some (.ref 67), some (.int l1), some (.int l2), some (.int l3), some (.int l4)]) (st' := []) (h' := h) rfl ?_ ?_
    · rfl
    · refine mX_to 3 (k' := 26) (ls' := [some (.ref 67), some (.int l1), some (.int l2), some (.int l3), some (.int l4)]) (st' := [.int l4, .int l3, .ref 67]) (h' := h) rfl ?_
      refine mX_ckct (m := mcl (mE mtab d 307 [.ref 67, .int l3, .int l4] h) 1 27 [some (.ref 67), some (.int l1), some (.int l2), some (.int l3), some (.int l4)] []) (k_67 L) rfl ?_
      refine mk_cIe (o := F_X11_swapped d l3 l4 h) ?_
      intro x4 h3 eh3
      have L3 : lay h3 := lay_call d 307 [.ref 67, .int l3, .int l4] h _ h3 rfl eh3 L
      refine mX_cIe (o := F_X11_size d x4 h3) (k' := 28) (ls' := [some (.ref 67), some (.int l1), some (.int l2), some (.int l3), some (.int l4)]) (st' := []) rfl ?_
      intro x6 h5 eh5
      have L5 : lay h5 := lay_call d 157 [.int x4] h3 _ h5 rfl eh5 L3
      refine mX_to 3 (k' := 31) (ls' := [some (.ref 67), some (.int l1), some (.int l2), some (.int l3), some (.int l4)]) (st' := [.int 10, .int l2, .ref 67, .int x6]) (h' := h5) rfl ?_
      refine mX_ckt (c := ¬ (10 : Int32) = 0) (k' := 32) (ls' := [some (.ref 67), some (.int l1), some (.int l2), some (.int l3), some (.int l4)]) (st' := [.int (l2 / 10), .ref 67, .int x6]) (h' := h5) (by decide) rfl ?_
      refine mX_to 2 (k' := 34) (ls' := [some (.ref 67), some (.int l1), some (.int l2), some (.int l3), some (.int l4)]) (st' := [.int 10, .int l2, .int (l2 / 10), .ref 67, .int x6]) (h' := h5) rfl ?_
      refine mX_ckt (c := ¬ (10 : Int32) = 0) (k' := 35) (ls' := [some (.ref 67), some (.int l1), some (.int l2), some (.int l3), some (.int l4)]) (st' := [.int (l2 - l2 / 10 * 10), .int (l2 / 10), .ref 67, .int x6]) (h' := h5) (by decide) rfl ?_
      refine mX_ckct (m := mcl (mE mtab d 307 [.ref 67, .int (l2 / 10), .int (l2 - l2 / 10 * 10)] h5) 1 36 [some (.ref 67), some (.int l1), some (.int l2), some (.int l3), some (.int l4)] [.int x6]) (k_67 L5) rfl ?_
      refine mk_cIe (o := F_X11_swapped d (l2 / 10) (l2 - l2 / 10 * 10) h5) ?_
      intro x8 h7 eh7
      have L7 : lay h7 := lay_call d 307 [.ref 67, .int (l2 / 10), .int (l2 - l2 / 10 * 10)] h5 _ h7 rfl eh7 L5
      refine mX_cIe (o := F_X11_size d x8 h7) (k' := 37) (ls' := [some (.ref 67), some (.int l1), some (.int l2), some (.int l3), some (.int l4)]) (st' := [.int x6]) rfl ?_
      intro x10 h9 eh9
      have L9 : lay h9 := lay_call d 157 [.int x8] h7 _ h9 rfl eh9 L7
      refine mX_br (t := 38) (f := 44) (ls' := [some (.ref 67), some (.int l1), some (.int l2), some (.int l3), some (.int l4)]) (st' := []) (h' := h9) rfl ?_ ?_
      · rfl
      · rfl
  · refine mX_to 2 (k' := 4) (ls' := [some (.ref 67), some (.int l1), some (.int l2), some (.int (l3 + 1)), some (.int l4)]) (st' := []) (h' := h) rfl ?_
    rfl
theorem S_X11_swap_38 {h : MH} (L : lay h) (d : Nat) (l1 : Int32) (l2 : Int32) (l3 : Int32) (l4 : Int32) : G_X11_swap_38 d l1 l2 l3 l4 h = lt_ ((10 * l3) + l4) fun v11 => G_X11_swap_44 d l1 v11 l3 l4 h := by
  refine mX_to 5 (k' := 43) (ls' := [some (.ref 67), some (.int l1), some (.int l2), some (.int l3), some (.int l4)]) (st' := [.int ((10 * l3) + l4)]) (h' := h) rfl ?_
  refine lt_gen (X := fun v11 : Int32 => mX (mE mtab d) KX11_swap 43 [some (.ref 67), some (.int l1), some (.int l2), some (.int l3), some (.int l4)] [.int v11] h) fun v11 => ?_
  refine mX_to 1 (k' := 44) (ls' := [some (.ref 67), some (.int l1), some (.int v11), some (.int l3), some (.int l4)]) (st' := []) (h' := h) rfl ?_
  rfl
theorem S_X11_swap_44 {h : MH} (L : lay h) (d : Nat) (l1 : Int32) (l2 : Int32) (l3 : Int32) (l4 : Int32) : G_X11_swap_44 d l1 l2 l3 l4 h = G_X11_swap_14 d l1 l2 l3 (l4 + 1) h := by
  refine mX_to 2 (k' := 14) (ls' := [some (.ref 67), some (.int l1), some (.int l2), some (.int l3), some (.int (l4 + 1))]) (st' := []) (h' := h) rfl ?_
  rfl
theorem S_X11_swap {h : MH} (L : lay h) (d : Nat) (a1 : Int32) : F_X11_swap (d + 1) a1 h = G_X11_swap_4 d a1 (-1) 0 none h := by
  refine mE_eq (q := (yX11_swap, cX11_swap, 5, (some .int), KX11_swap)) (C := KX11_swap) (ls := [some (.ref 67), some (.int a1), none, none, none]) rfl rfl rfl rfl ?_
  refine mX_to 4 (k' := 4) (ls' := [some (.ref 67), some (.int a1), some (.int (-1)), some (.int 0), none]) (st' := []) (h' := h) rfl ?_
  rfl
theorem S_X10_send_16 {h : MH} (L : lay h) (d : Nat) (l1 : Int32) (l2 : Int32) (l3 : Int32) (l4 : Int32) : G_X10_send_16 d l1 l2 l3 l4 h = (if l4 < 9 then (if (jabs (l2 + (l1 * (l4 - 4)))) < (jabs (l2 + (l1 * (l3 - 4)))) then G_X10_send_38 d l1 l2 l4 l4 h else G_X10_send_38 d l1 l2 l3 l4 h) else some (.int l3, h)) := by
  refine mX_to 2 (k' := 18) (ls' := [some (.ref 8), some (.int l1), some (.int l2), some (.int l3), some (.int l4)]) (st' := [.int 9, .int l4]) (h' := h) rfl ?_
  refine mX_br (t := 19) (f := 40) (ls' := [some (.ref 8), some (.int l1), some (.int l2), some (.int l3), some (.int l4)]) (st' := []) (h' := h) rfl ?_ ?_
  · refine mX_to 16 (k' := 35) (ls' := [some (.ref 8), some (.int l1), some (.int l2), some (.int l3), some (.int l4)]) (st' := [.int (jabs (l2 + (l1 * (l3 - 4)))), .int (jabs (l2 + (l1 * (l4 - 4))))]) (h' := h) rfl ?_
    refine mX_br (t := 36) (f := 38) (ls' := [some (.ref 8), some (.int l1), some (.int l2), some (.int l3), some (.int l4)]) (st' := []) (h' := h) rfl ?_ ?_
    · refine mX_to 2 (k' := 38) (ls' := [some (.ref 8), some (.int l1), some (.int l2), some (.int l4), some (.int l4)]) (st' := []) (h' := h) rfl ?_
      rfl
    · rfl
  · refine mX_to 1 (k' := 41) (ls' := [some (.ref 8), some (.int l1), some (.int l2), some (.int l3), some (.int l4)]) (st' := [.int l3]) (h' := h) rfl ?_
    exact mX_reti rfl
theorem S_X10_send_38 {h : MH} (L : lay h) (d : Nat) (l1 : Int32) (l2 : Int32) (l3 : Int32) (l4 : Int32) : G_X10_send_38 d l1 l2 l3 l4 h = G_X10_send_16 d l1 l2 l3 (l4 + 1) h := by
  refine mX_to 2 (k' := 16) (ls' := [some (.ref 8), some (.int l1), some (.int l2), some (.int l3), some (.int (l4 + 1))]) (st' := []) (h' := h) rfl ?_
  rfl
theorem S_X10_send {h : MH} (L : lay h) (d : Nat) (a1 : Int32) : F_X10_send (d + 1) a1 h = cI (F_X10_within d a1 1 9 h) (fun x2 h1 => (if x2 = 0 then some (.int (-1), h1) else cI (F_X9_tipNow d 10 h1) (fun x4 h3 => G_X10_send_16 d a1 x4 0 1 h3))) := by
  refine mE_eq (q := (yX10_send, cX10_send, 5, (some .int), KX10_send)) (C := KX10_send) (ls := [some (.ref 8), some (.int a1), none, none, none]) rfl rfl rfl rfl ?_
  refine mX_to 3 (k' := 3) (ls' := [some (.ref 8), some (.int a1), none, none, none]) (st' := [.int 9, .int 1, .int a1]) (h' := h) rfl ?_
  refine mX_cIe (o := F_X10_within d a1 1 9 h) (k' := 4) (ls' := [some (.ref 8), some (.int a1), none, none, none]) (st' := []) rfl ?_
  intro x2 h1 eh1
  have L1 : lay h1 := lay_call d 11 [.int a1, .int 1, .int 9] h _ h1 rfl eh1 L
  refine mX_br (t := 5) (f := 7) (ls' := [some (.ref 8), some (.int a1), none, none, none]) (st' := []) (h' := h1) rfl ?_ ?_
  · refine mX_to 1 (k' := 6) (ls' := [some (.ref 8), some (.int a1), none, none, none]) (st' := [.int (-1)]) (h' := h1) rfl ?_
    exact mX_reti rfl
  · refine mX_to 1 (k' := 8) (ls' := [some (.ref 8), some (.int a1), none, none, none]) (st' := [.ref 8]) (h' := h1) rfl ?_
    refine mX_ckv (v := .ref (gR h1 8 0)) (v' := .ref 9) (k' := 9) (ls' := [some (.ref 8), some (.int a1), none, none, none]) (st' := []) (h' := h1) (k_8 L1) (congrArg Value.ref (r_8_0 L1)) rfl ?_
    refine mX_ckv (v := .ref (gR h1 9 0)) (v' := .ref 10) (k' := 10) (ls' := [some (.ref 8), some (.int a1), none, none, none]) (st' := []) (h' := h1) (k_9 L1) (congrArg Value.ref (r_9_0 L1)) rfl ?_
    refine mX_ckct (m := mcl (mE mtab d 139 [.ref 10] h1) 1 11 [some (.ref 8), some (.int a1), none, none, none] []) (k_10 L1) rfl ?_
    refine mk_cIe (o := F_X9_tipNow d 10 h1) ?_
    intro x4 h3 eh3
    have L3 : lay h3 := lay_call d 139 [.ref 10] h1 _ h3 rfl eh3 L1
    refine mX_to 5 (k' := 16) (ls' := [some (.ref 8), some (.int a1), some (.int x4), some (.int 0), some (.int 1)]) (st' := []) (h' := h3) rfl ?_
    rfl
theorem S_X11_send_11 {h : MH} (L : lay h) (d : Nat) (l1 : Int32) (l2 : Int32) (l3 : Int32) : G_X11_send_11 d l1 l2 l3 h = (if l3 < 9 then cI (F_X11_tipNow d h) (fun x4 h3 => cI (F_X11_size d (x4 + (l1 * (l3 - 4))) h3) (fun x6 h5 => cI (F_X11_tipNow d h5) (fun x8 h7 => cI (F_X11_size d (x8 + (l1 * (l2 - 4))) h7) (fun x10 h9 => (if x6 < x10 then G_X11_send_35 d l1 l3 l3 h9 else G_X11_send_35 d l1 l2 l3 h9))))) else some (.int l2, h)) := by
  refine mX_to 2 (k' := 13) (ls' := [some (.ref 67), some (.int l1), some (.int l2), some (.int l3)]) (st' := [.int 9, .int l3]) (h' := h) rfl ?_
  refine mX_br (t := 14) (f := 37) (ls' := [some (.ref 67), some (.int l1), some (.int l2), some (.int l3)]) (st' := []) (h' := h) rfl ?_ ?_
  · refine mX_to 1 (k' := 15) (ls' := [some (.ref 67), some (.int l1), some (.int l2), some (.int l3)]) (st' := [.ref 67]) (h' := h) rfl ?_
    refine mX_ckct (m := mcl (mE mtab d 156 [.ref 67] h) 1 16 [some (.ref 67), some (.int l1), some (.int l2), some (.int l3)] []) (k_67 L) rfl ?_
    refine mk_cIe (o := F_X11_tipNow d h) ?_
    intro x4 h3 eh3
    have L3 : lay h3 := lay_call d 156 [.ref 67] h _ h3 rfl eh3 L
    refine mX_to 6 (k' := 22) (ls' := [some (.ref 67), some (.int l1), some (.int l2), some (.int l3)]) (st' := [.int (x4 + (l1 * (l3 - 4)))]) (h' := h3) rfl ?_
    refine mX_cIe (o := F_X11_size d (x4 + (l1 * (l3 - 4))) h3) (k' := 23) (ls' := [some (.ref 67), some (.int l1), some (.int l2), some (.int l3)]) (st' := []) rfl ?_
    intro x6 h5 eh5
    have L5 : lay h5 := lay_call d 157 [.int (x4 + (l1 * (l3 - 4)))] h3 _ h5 rfl eh5 L3
    refine mX_to 1 (k' := 24) (ls' := [some (.ref 67), some (.int l1), some (.int l2), some (.int l3)]) (st' := [.ref 67, .int x6]) (h' := h5) rfl ?_
    refine mX_ckct (m := mcl (mE mtab d 156 [.ref 67] h5) 1 25 [some (.ref 67), some (.int l1), some (.int l2), some (.int l3)] [.int x6]) (k_67 L5) rfl ?_
    refine mk_cIe (o := F_X11_tipNow d h5) ?_
    intro x8 h7 eh7
    have L7 : lay h7 := lay_call d 156 [.ref 67] h5 _ h7 rfl eh7 L5
    refine mX_to 6 (k' := 31) (ls' := [some (.ref 67), some (.int l1), some (.int l2), some (.int l3)]) (st' := [.int (x8 + (l1 * (l2 - 4))), .int x6]) (h' := h7) rfl ?_
    refine mX_cIe (o := F_X11_size d (x8 + (l1 * (l2 - 4))) h7) (k' := 32) (ls' := [some (.ref 67), some (.int l1), some (.int l2), some (.int l3)]) (st' := [.int x6]) rfl ?_
    intro x10 h9 eh9
    have L9 : lay h9 := lay_call d 157 [.int (x8 + (l1 * (l2 - 4)))] h7 _ h9 rfl eh9 L7
    refine mX_br (t := 33) (f := 35) (ls' := [some (.ref 67), some (.int l1), some (.int l2), some (.int l3)]) (st' := []) (h' := h9) rfl ?_ ?_
    · refine mX_to 2 (k' := 35) (ls' := [some (.ref 67), some (.int l1), some (.int l3), some (.int l3)]) (st' := []) (h' := h9) rfl ?_
      rfl
    · rfl
  · refine mX_to 1 (k' := 38) (ls' := [some (.ref 67), some (.int l1), some (.int l2), some (.int l3)]) (st' := [.int l2]) (h' := h) rfl ?_
    exact mX_reti rfl
theorem S_X11_send_35 {h : MH} (L : lay h) (d : Nat) (l1 : Int32) (l2 : Int32) (l3 : Int32) : G_X11_send_35 d l1 l2 l3 h = G_X11_send_11 d l1 l2 (l3 + 1) h := by
  refine mX_to 2 (k' := 11) (ls' := [some (.ref 67), some (.int l1), some (.int l2), some (.int (l3 + 1))]) (st' := []) (h' := h) rfl ?_
  rfl
theorem S_X11_send {h : MH} (L : lay h) (d : Nat) (a1 : Int32) : F_X11_send (d + 1) a1 h = cI (F_X11_isIn d a1 1 9 h) (fun x2 h1 => (if x2 = 0 then some (.int (-1), h1) else G_X11_send_11 d a1 0 1 h1)) := by
  refine mE_eq (q := (yX11_send, cX11_send, 4, (some .int), KX11_send)) (C := KX11_send) (ls := [some (.ref 67), some (.int a1), none, none]) rfl rfl rfl rfl ?_
  refine mX_to 3 (k' := 3) (ls' := [some (.ref 67), some (.int a1), none, none]) (st' := [.int 9, .int 1, .int a1]) (h' := h) rfl ?_
  refine mX_cIe (o := F_X11_isIn d a1 1 9 h) (k' := 4) (ls' := [some (.ref 67), some (.int a1), none, none]) (st' := []) rfl ?_
  intro x2 h1 eh1
  have L1 : lay h1 := lay_call d 14 [.int a1, .int 1, .int 9] h _ h1 rfl eh1 L
  refine mX_br (t := 5) (f := 7) (ls' := [some (.ref 67), some (.int a1), none, none]) (st' := []) (h' := h1) rfl ?_ ?_
  · refine mX_to 1 (k' := 6) (ls' := [some (.ref 67), some (.int a1), none, none]) (st' := [.int (-1)]) (h' := h1) rfl ?_
    exact mX_reti rfl
  · refine mX_to 4 (k' := 11) (ls' := [some (.ref 67), some (.int a1), some (.int 0), some (.int 1)]) (st' := []) (h' := h1) rfl ?_
    rfl
theorem S_X0_hear {h : MH} (L : lay h) (d : Nat) (a1 : Int32) (a2 : Int32) : F_X0_hear (d + 1) a1 a2 h = (if (gI h 9 8) < 8 then ck (ib (gI h 9 8) 8) (lt_ (sI h 24 (ix (gI h 9 8)) a1) fun h2 => ck (ib (gI h2 9 8) 8) (lt_ (sI h2 25 (ix (gI h2 9 8)) a2) fun h4 => lt_ (sI h4 9 8 ((gI h4 9 8) + 1)) fun h6 => some (.int (gI h6 9 8), h6))) else some (.int (-2), h)) := by
  refine mE_eq (q := (yX0_hear, cX0_hear, 3, (some .int), KX0_hear)) (C := KX0_hear) (ls := [some (.ref 9), some (.int a1), some (.int a2)]) rfl rfl rfl rfl ?_
  refine mX_to 1 (k' := 1) (ls' := [some (.ref 9), some (.int a1), some (.int a2)]) (st' := [.ref 9]) (h' := h) rfl ?_
  refine mX_ckv (v := .int (gI h 9 8)) (v' := .int (gI h 9 8)) (k' := 2) (ls' := [some (.ref 9), some (.int a1), some (.int a2)]) (st' := []) (h' := h) (k_9 L) rfl rfl ?_
  refine mX_to 1 (k' := 3) (ls' := [some (.ref 9), some (.int a1), some (.int a2)]) (st' := [.int 8, .int (gI h 9 8)]) (h' := h) rfl ?_
  refine mX_br (t := 6) (f := 4) (ls' := [some (.ref 9), some (.int a1), some (.int a2)]) (st' := []) (h' := h) rfl ?_ ?_
  · refine mX_to 1 (k' := 7) (ls' := [some (.ref 9), some (.int a1), some (.int a2)]) (st' := [.ref 9]) (h' := h) rfl ?_
    refine mX_ckv (v := .ref (gR h 9 6)) (v' := .ref 24) (k' := 8) (ls' := [some (.ref 9), some (.int a1), some (.int a2)]) (st' := []) (h' := h) (k_9 L) (congrArg Value.ref (r_9_6 L)) rfl ?_
    refine mX_to 1 (k' := 9) (ls' := [some (.ref 9), some (.int a1), some (.int a2)]) (st' := [.ref 9, .ref 24]) (h' := h) rfl ?_
    refine mX_ckv (v := .int (gI h 9 8)) (v' := .int (gI h 9 8)) (k' := 10) (ls' := [some (.ref 9), some (.int a1), some (.int a2)]) (st' := [.ref 24]) (h' := h) (k_9 L) rfl rfl ?_
    refine mX_to 1 (k' := 11) (ls' := [some (.ref 9), some (.int a1), some (.int a2)]) (st' := [.int a1, .int (gI h 9 8), .ref 24]) (h' := h) rfl ?_
    refine mX_cki (k' := 12) (ls' := [some (.ref 9), some (.int a1), some (.int a2)]) (st' := []) (h' := (sI h 24 (ix (gI h 9 8)) a1)) (ckA0 (k_24 L) (n_24 L)) rfl fun c1 => ?_
    refine lt_geq2 (X := fun h2 : MH => mX (mE mtab d) KX0_hear 12 [some (.ref 9), some (.int a1), some (.int a2)] [] h2) (a := (sI h 24 (ix (gI h 9 8)) a1)) (a' := (sI h 24 (ix (gI h 9 8)) a1)) rfl fun h2 eh2 => ?_
    have L2 : lay h2 := eh2 ▸ layI L (by decide)
    refine mX_to 1 (k' := 13) (ls' := [some (.ref 9), some (.int a1), some (.int a2)]) (st' := [.ref 9]) (h' := h2) rfl ?_
    refine mX_ckv (v := .ref (gR h2 9 7)) (v' := .ref 25) (k' := 14) (ls' := [some (.ref 9), some (.int a1), some (.int a2)]) (st' := []) (h' := h2) (k_9 L2) (congrArg Value.ref (r_9_7 L2)) rfl ?_
    refine mX_to 1 (k' := 15) (ls' := [some (.ref 9), some (.int a1), some (.int a2)]) (st' := [.ref 9, .ref 25]) (h' := h2) rfl ?_
    refine mX_ckv (v := .int (gI h2 9 8)) (v' := .int (gI h2 9 8)) (k' := 16) (ls' := [some (.ref 9), some (.int a1), some (.int a2)]) (st' := [.ref 25]) (h' := h2) (k_9 L2) rfl rfl ?_
    refine mX_to 1 (k' := 17) (ls' := [some (.ref 9), some (.int a1), some (.int a2)]) (st' := [.int a2, .int (gI h2 9 8), .ref 25]) (h' := h2) rfl ?_
    refine mX_cki (k' := 18) (ls' := [some (.ref 9), some (.int a1), some (.int a2)]) (st' := []) (h' := (sI h2 25 (ix (gI h2 9 8)) a2)) (ckA0 (k_25 L2) (n_25 L2)) rfl fun c3 => ?_
    refine lt_geq2 (X := fun h4 : MH => mX (mE mtab d) KX0_hear 18 [some (.ref 9), some (.int a1), some (.int a2)] [] h4) (a := (sI h2 25 (ix (gI h2 9 8)) a2)) (a' := (sI h2 25 (ix (gI h2 9 8)) a2)) rfl fun h4 eh4 => ?_
    have L4 : lay h4 := eh4 ▸ layI L2 (by decide)
    refine mX_to 2 (k' := 20) (ls' := [some (.ref 9), some (.int a1), some (.int a2)]) (st' := [.ref 9, .ref 9]) (h' := h4) rfl ?_
    refine mX_ckv (v := .int (gI h4 9 8)) (v' := .int (gI h4 9 8)) (k' := 21) (ls' := [some (.ref 9), some (.int a1), some (.int a2)]) (st' := [.ref 9]) (h' := h4) (k_9 L4) rfl rfl ?_
    refine mX_to 2 (k' := 23) (ls' := [some (.ref 9), some (.int a1), some (.int a2)]) (st' := [.int ((gI h4 9 8) + 1), .ref 9]) (h' := h4) rfl ?_
    refine mX_ckt (k' := 24) (ls' := [some (.ref 9), some (.int a1), some (.int a2)]) (st' := []) (h' := (sI h4 9 8 ((gI h4 9 8) + 1))) (k_9 L4) rfl ?_
    refine lt_geq2 (X := fun h6 : MH => mX (mE mtab d) KX0_hear 24 [some (.ref 9), some (.int a1), some (.int a2)] [] h6) (a := (sI h4 9 8 ((gI h4 9 8) + 1))) (a' := (sI h4 9 8 ((gI h4 9 8) + 1))) rfl fun h6 eh6 => ?_
    have L6 : lay h6 := eh6 ▸ layI L4 (by decide)
    refine mX_to 1 (k' := 25) (ls' := [some (.ref 9), some (.int a1), some (.int a2)]) (st' := [.ref 9]) (h' := h6) rfl ?_
    refine mX_ckv (v := .int (gI h6 9 8)) (v' := .int (gI h6 9 8)) (k' := 26) (ls' := [some (.ref 9), some (.int a1), some (.int a2)]) (st' := []) (h' := h6) (k_9 L6) rfl rfl ?_
    exact mX_reti rfl
  · refine mX_to 1 (k' := 5) (ls' := [some (.ref 9), some (.int a1), some (.int a2)]) (st' := [.int (-2)]) (h' := h) rfl ?_
    exact mX_reti rfl
theorem S_X10_said {h : MH} (L : lay h) (d : Nat) (a1 : Int32) (a2 : Int32) : F_X10_said (d + 1) a1 a2 h = (if a1 = (-1) then lt_ (sI h 9 8 0) fun h2 => some (.int 0, h2) else cI (F_X9_has d 10 a1 h) (fun x4 h3 => (if x4 = 0 then some (.int (-2), h3) else cI (F_X10_within d a2 0 3 h3) (fun x6 h5 => (if x6 = 0 then some (.int (-2), h5) else cI (F_X0_hear d a1 a2 h5) (fun x8 h7 => some (.int x8, h7))))))) := by
  refine mE_eq (q := (yX10_said, cX10_said, 3, (some .int), KX10_said)) (C := KX10_said) (ls := [some (.ref 8), some (.int a1), some (.int a2)]) rfl rfl rfl rfl ?_
  refine mX_to 2 (k' := 2) (ls' := [some (.ref 8), some (.int a1), some (.int a2)]) (st' := [.int (-1), .int a1]) (h' := h) rfl ?_
  refine mX_br (t := 3) (f := 9) (ls' := [some (.ref 8), some (.int a1), some (.int a2)]) (st' := []) (h' := h) rfl ?_ ?_
  · refine mX_to 1 (k' := 4) (ls' := [some (.ref 8), some (.int a1), some (.int a2)]) (st' := [.ref 8]) (h' := h) rfl ?_
    refine mX_ckv (v := .ref (gR h 8 0)) (v' := .ref 9) (k' := 5) (ls' := [some (.ref 8), some (.int a1), some (.int a2)]) (st' := []) (h' := h) (k_8 L) (congrArg Value.ref (r_8_0 L)) rfl ?_
    refine mX_to 1 (k' := 6) (ls' := [some (.ref 8), some (.int a1), some (.int a2)]) (st' := [.int 0, .ref 9]) (h' := h) rfl ?_
    refine mX_ckt (k' := 7) (ls' := [some (.ref 8), some (.int a1), some (.int a2)]) (st' := []) (h' := (sI h 9 8 0)) (k_9 L) rfl ?_
    refine lt_geq2 (X := fun h2 : MH => mX (mE mtab d) KX10_said 7 [some (.ref 8), some (.int a1), some (.int a2)] [] h2) (a := (sI h 9 8 0)) (a' := (sI h 9 8 0)) rfl fun h2 eh2 => ?_
    have L2 : lay h2 := eh2 ▸ layI L (by decide)
    refine mX_to 1 (k' := 8) (ls' := [some (.ref 8), some (.int a1), some (.int a2)]) (st' := [.int 0]) (h' := h2) rfl ?_
    exact mX_reti rfl
  · refine mX_to 1 (k' := 10) (ls' := [some (.ref 8), some (.int a1), some (.int a2)]) (st' := [.ref 8]) (h' := h) rfl ?_
    refine mX_ckv (v := .ref (gR h 8 0)) (v' := .ref 9) (k' := 11) (ls' := [some (.ref 8), some (.int a1), some (.int a2)]) (st' := []) (h' := h) (k_8 L) (congrArg Value.ref (r_8_0 L)) rfl ?_
    refine mX_ckv (v := .ref (gR h 9 0)) (v' := .ref 10) (k' := 12) (ls' := [some (.ref 8), some (.int a1), some (.int a2)]) (st' := []) (h' := h) (k_9 L) (congrArg Value.ref (r_9_0 L)) rfl ?_
    refine mX_to 1 (k' := 13) (ls' := [some (.ref 8), some (.int a1), some (.int a2)]) (st' := [.int a1, .ref 10]) (h' := h) rfl ?_
    refine mX_ckct (m := mcl (mE mtab d 17 [.ref 10, .int a1] h) 1 14 [some (.ref 8), some (.int a1), some (.int a2)] []) (k_10 L) rfl ?_
    refine mk_cIe (o := F_X9_has d 10 a1 h) ?_
    intro x4 h3 eh3
    have L3 : lay h3 := lay_call d 17 [.ref 10, .int a1] h _ h3 rfl eh3 L
    refine mX_br (t := 20) (f := 15) (ls' := [some (.ref 8), some (.int a1), some (.int a2)]) (st' := []) (h' := h3) rfl ?_ ?_
    · refine mX_to 1 (k' := 21) (ls' := [some (.ref 8), some (.int a1), some (.int a2)]) (st' := [.int (-2)]) (h' := h3) rfl ?_
      exact mX_reti rfl
    · refine mX_to 3 (k' := 18) (ls' := [some (.ref 8), some (.int a1), some (.int a2)]) (st' := [.int 3, .int 0, .int a2]) (h' := h3) rfl ?_
      refine mX_cIe (o := F_X10_within d a2 0 3 h3) (k' := 19) (ls' := [some (.ref 8), some (.int a1), some (.int a2)]) (st' := []) rfl ?_
      intro x6 h5 eh5
      have L5 : lay h5 := lay_call d 11 [.int a2, .int 0, .int 3] h3 _ h5 rfl eh5 L3
      refine mX_br (t := 20) (f := 22) (ls' := [some (.ref 8), some (.int a1), some (.int a2)]) (st' := []) (h' := h5) rfl ?_ ?_
      · refine mX_to 1 (k' := 21) (ls' := [some (.ref 8), some (.int a1), some (.int a2)]) (st' := [.int (-2)]) (h' := h5) rfl ?_
        exact mX_reti rfl
      · refine mX_to 1 (k' := 23) (ls' := [some (.ref 8), some (.int a1), some (.int a2)]) (st' := [.ref 8]) (h' := h5) rfl ?_
        refine mX_ckv (v := .ref (gR h5 8 0)) (v' := .ref 9) (k' := 24) (ls' := [some (.ref 8), some (.int a1), some (.int a2)]) (st' := []) (h' := h5) (k_8 L5) (congrArg Value.ref (r_8_0 L5)) rfl ?_
        refine mX_to 2 (k' := 26) (ls' := [some (.ref 8), some (.int a1), some (.int a2)]) (st' := [.int a2, .int a1, .ref 9]) (h' := h5) rfl ?_
        refine mX_ckct (m := mcl (mE mtab d 311 [.ref 9, .int a1, .int a2] h5) 1 27 [some (.ref 8), some (.int a1), some (.int a2)] []) (k_9 L5) rfl ?_
        refine mk_cIe (o := F_X0_hear d a1 a2 h5) ?_
        intro x8 h7 eh7
        have L7 : lay h7 := lay_call d 311 [.ref 9, .int a1, .int a2] h5 _ h7 rfl eh7 L5
        exact mX_reti rfl
theorem S_X11_said {h : MH} (L : lay h) (d : Nat) (a1 : Int32) (a2 : Int32) : F_X11_said (d + 1) a1 a2 h = (if a1 = (-1) then lt_ (sI h 68 5 0) fun h2 => some (.int 0, h2) else cI (F_X11_isPerson d a1 h) (fun x4 h3 => (if x4 = 0 then some (.int (-2), h3) else cI (F_X11_isIn d a2 0 3 h3) (fun x6 h5 => (if x6 = 0 then some (.int (-2), h5) else (if (gI h5 68 5) = 8 then some (.int (-2), h5) else ck (ib (42 + (2 * (gI h5 68 5))) 1498) (lt_ (sI h5 68 (ix (42 + (2 * (gI h5 68 5)))) a1) fun h8 => ck (ib ((42 + (2 * (gI h8 68 5))) + 1) 1498) (lt_ (sI h8 68 (ix ((42 + (2 * (gI h8 68 5))) + 1)) a2) fun h10 => lt_ (sI h10 68 5 ((gI h10 68 5) + 1)) fun h12 => some (.int (gI h12 68 5), h12))))))))) := by
  refine mE_eq (q := (yX11_said, cX11_said, 3, (some .int), KX11_said)) (C := KX11_said) (ls := [some (.ref 67), some (.int a1), some (.int a2)]) rfl rfl rfl rfl ?_
  refine mX_to 2 (k' := 2) (ls' := [some (.ref 67), some (.int a1), some (.int a2)]) (st' := [.int (-1), .int a1]) (h' := h) rfl ?_
  refine mX_br (t := 3) (f := 10) (ls' := [some (.ref 67), some (.int a1), some (.int a2)]) (st' := []) (h' := h) rfl ?_ ?_
  · refine mX_to 1 (k' := 4) (ls' := [some (.ref 67), some (.int a1), some (.int a2)]) (st' := [.ref 67]) (h' := h) rfl ?_
    refine mX_ckv (v := .ref (gR h 67 0)) (v' := .ref 68) (k' := 5) (ls' := [some (.ref 67), some (.int a1), some (.int a2)]) (st' := []) (h' := h) (k_67 L) (congrArg Value.ref (r_67_0 L)) rfl ?_
    refine mX_to 2 (k' := 7) (ls' := [some (.ref 67), some (.int a1), some (.int a2)]) (st' := [.int 0, .int 5, .ref 68]) (h' := h) rfl ?_
    refine mX_ckt (k' := 8) (ls' := [some (.ref 67), some (.int a1), some (.int a2)]) (st' := []) (h' := (sI h 68 (ix (5 : Int32)) 0)) ((ckA0 (k_68 L) (n_68 L)).mpr (ib_lit (n := 5) rfl (by decide) (by decide))) rfl ?_
    refine lt_geq2 (X := fun h2 : MH => mX (mE mtab d) KX11_said 8 [some (.ref 67), some (.int a1), some (.int a2)] [] h2) (a := (sI h 68 (ix (5 : Int32)) 0)) (a' := (sI h 68 5 0)) (congrArg (fun j => sI h 68 j 0) (ix_lit (n := 5) rfl (by decide))) fun h2 eh2 => ?_
    have L2 : lay h2 := eh2 ▸ layI L (by decide)
    refine mX_to 1 (k' := 9) (ls' := [some (.ref 67), some (.int a1), some (.int a2)]) (st' := [.int 0]) (h' := h2) rfl ?_
    exact mX_reti rfl
  · refine mX_to 2 (k' := 12) (ls' := [some (.ref 67), some (.int a1), some (.int a2)]) (st' := [.int a1, .ref 67]) (h' := h) rfl ?_
    refine mX_ckct (m := mcl (mE mtab d 20 [.ref 67, .int a1] h) 1 13 [some (.ref 67), some (.int a1), some (.int a2)] []) (k_67 L) rfl ?_
    refine mk_cIe (o := F_X11_isPerson d a1 h) ?_
    intro x4 h3 eh3
    have L3 : lay h3 := lay_call d 20 [.ref 67, .int a1] h _ h3 rfl eh3 L
    refine mX_br (t := 25) (f := 14) (ls' := [some (.ref 67), some (.int a1), some (.int a2)]) (st' := []) (h' := h3) rfl ?_ ?_
    · refine mX_to 1 (k' := 26) (ls' := [some (.ref 67), some (.int a1), some (.int a2)]) (st' := [.int (-2)]) (h' := h3) rfl ?_
      exact mX_reti rfl
    · refine mX_to 3 (k' := 17) (ls' := [some (.ref 67), some (.int a1), some (.int a2)]) (st' := [.int 3, .int 0, .int a2]) (h' := h3) rfl ?_
      refine mX_cIe (o := F_X11_isIn d a2 0 3 h3) (k' := 18) (ls' := [some (.ref 67), some (.int a1), some (.int a2)]) (st' := []) rfl ?_
      intro x6 h5 eh5
      have L5 : lay h5 := lay_call d 14 [.int a2, .int 0, .int 3] h3 _ h5 rfl eh5 L3
      refine mX_br (t := 25) (f := 19) (ls' := [some (.ref 67), some (.int a1), some (.int a2)]) (st' := []) (h' := h5) rfl ?_ ?_
      · refine mX_to 1 (k' := 26) (ls' := [some (.ref 67), some (.int a1), some (.int a2)]) (st' := [.int (-2)]) (h' := h5) rfl ?_
        exact mX_reti rfl
      · refine mX_to 1 (k' := 20) (ls' := [some (.ref 67), some (.int a1), some (.int a2)]) (st' := [.ref 67]) (h' := h5) rfl ?_
        refine mX_ckv (v := .ref (gR h5 67 0)) (v' := .ref 68) (k' := 21) (ls' := [some (.ref 67), some (.int a1), some (.int a2)]) (st' := []) (h' := h5) (k_67 L5) (congrArg Value.ref (r_67_0 L5)) rfl ?_
        refine mX_to 1 (k' := 22) (ls' := [some (.ref 67), some (.int a1), some (.int a2)]) (st' := [.int 5, .ref 68]) (h' := h5) rfl ?_
        refine mX_ckv (v := .int (gI h5 68 (ix (5 : Int32)))) (v' := .int (gI h5 68 5)) (k' := 23) (ls' := [some (.ref 67), some (.int a1), some (.int a2)]) (st' := []) (h' := h5) ((ckA1 (k_68 L5) (n_68 L5)).mpr (ib_lit (n := 5) rfl (by decide) (by decide))) (congrArg (fun j => Value.int (gI h5 68 j)) (ix_lit (n := 5) rfl (by decide))) rfl ?_
        refine mX_to 1 (k' := 24) (ls' := [some (.ref 67), some (.int a1), some (.int a2)]) (st' := [.int 8, .int (gI h5 68 5)]) (h' := h5) rfl ?_
        refine mX_br (t := 25) (f := 27) (ls' := [some (.ref 67), some (.int a1), some (.int a2)]) (st' := []) (h' := h5) rfl ?_ ?_
        · refine mX_to 1 (k' := 26) (ls' := [some (.ref 67), some (.int a1), some (.int a2)]) (st' := [.int (-2)]) (h' := h5) rfl ?_
          exact mX_reti rfl
        · refine mX_to 1 (k' := 28) (ls' := [some (.ref 67), some (.int a1), some (.int a2)]) (st' := [.ref 67]) (h' := h5) rfl ?_
          refine mX_ckv (v := .ref (gR h5 67 0)) (v' := .ref 68) (k' := 29) (ls' := [some (.ref 67), some (.int a1), some (.int a2)]) (st' := []) (h' := h5) (k_67 L5) (congrArg Value.ref (r_67_0 L5)) rfl ?_
          refine mX_to 3 (k' := 32) (ls' := [some (.ref 67), some (.int a1), some (.int a2)]) (st' := [.ref 67, .int 2, .int 42, .ref 68]) (h' := h5) rfl ?_
          refine mX_ckv (v := .ref (gR h5 67 0)) (v' := .ref 68) (k' := 33) (ls' := [some (.ref 67), some (.int a1), some (.int a2)]) (st' := [.int 2, .int 42, .ref 68]) (h' := h5) (k_67 L5) (congrArg Value.ref (r_67_0 L5)) rfl ?_
          refine mX_to 1 (k' := 34) (ls' := [some (.ref 67), some (.int a1), some (.int a2)]) (st' := [.int 5, .ref 68, .int 2, .int 42, .ref 68]) (h' := h5) rfl ?_
          refine mX_ckv (v := .int (gI h5 68 (ix (5 : Int32)))) (v' := .int (gI h5 68 5)) (k' := 35) (ls' := [some (.ref 67), some (.int a1), some (.int a2)]) (st' := [.int 2, .int 42, .ref 68]) (h' := h5) ((ckA1 (k_68 L5) (n_68 L5)).mpr (ib_lit (n := 5) rfl (by decide) (by decide))) (congrArg (fun j => Value.int (gI h5 68 j)) (ix_lit (n := 5) rfl (by decide))) rfl ?_
          refine mX_to 3 (k' := 38) (ls' := [some (.ref 67), some (.int a1), some (.int a2)]) (st' := [.int a1, .int (42 + (2 * (gI h5 68 5))), .ref 68]) (h' := h5) rfl ?_
          refine mX_cki (k' := 39) (ls' := [some (.ref 67), some (.int a1), some (.int a2)]) (st' := []) (h' := (sI h5 68 (ix (42 + (2 * (gI h5 68 5)))) a1)) (ckA0 (k_68 L5) (n_68 L5)) rfl fun c7 => ?_
          refine lt_geq2 (X := fun h8 : MH => mX (mE mtab d) KX11_said 39 [some (.ref 67), some (.int a1), some (.int a2)] [] h8) (a := (sI h5 68 (ix (42 + (2 * (gI h5 68 5)))) a1)) (a' := (sI h5 68 (ix (42 + (2 * (gI h5 68 5)))) a1)) rfl fun h8 eh8 => ?_
          have L8 : lay h8 := eh8 ▸ layI L5 (by decide)
          refine mX_to 1 (k' := 40) (ls' := [some (.ref 67), some (.int a1), some (.int a2)]) (st' := [.ref 67]) (h' := h8) rfl ?_
          refine mX_ckv (v := .ref (gR h8 67 0)) (v' := .ref 68) (k' := 41) (ls' := [some (.ref 67), some (.int a1), some (.int a2)]) (st' := []) (h' := h8) (k_67 L8) (congrArg Value.ref (r_67_0 L8)) rfl ?_
          refine mX_to 3 (k' := 44) (ls' := [some (.ref 67), some (.int a1), some (.int a2)]) (st' := [.ref 67, .int 2, .int 42, .ref 68]) (h' := h8) rfl ?_
          refine mX_ckv (v := .ref (gR h8 67 0)) (v' := .ref 68) (k' := 45) (ls' := [some (.ref 67), some (.int a1), some (.int a2)]) (st' := [.int 2, .int 42, .ref 68]) (h' := h8) (k_67 L8) (congrArg Value.ref (r_67_0 L8)) rfl ?_
          refine mX_to 1 (k' := 46) (ls' := [some (.ref 67), some (.int a1), some (.int a2)]) (st' := [.int 5, .ref 68, .int 2, .int 42, .ref 68]) (h' := h8) rfl ?_
          refine mX_ckv (v := .int (gI h8 68 (ix (5 : Int32)))) (v' := .int (gI h8 68 5)) (k' := 47) (ls' := [some (.ref 67), some (.int a1), some (.int a2)]) (st' := [.int 2, .int 42, .ref 68]) (h' := h8) ((ckA1 (k_68 L8) (n_68 L8)).mpr (ib_lit (n := 5) rfl (by decide) (by decide))) (congrArg (fun j => Value.int (gI h8 68 j)) (ix_lit (n := 5) rfl (by decide))) rfl ?_
          refine mX_to 5 (k' := 52) (ls' := [some (.ref 67), some (.int a1), some (.int a2)]) (st' := [.int a2, .int ((42 + (2 * (gI h8 68 5))) + 1), .ref 68]) (h' := h8) rfl ?_
          refine mX_cki (k' := 53) (ls' := [some (.ref 67), some (.int a1), some (.int a2)]) (st' := []) (h' := (sI h8 68 (ix ((42 + (2 * (gI h8 68 5))) + 1)) a2)) (ckA0 (k_68 L8) (n_68 L8)) rfl fun c9 => ?_
          refine lt_geq2 (X := fun h10 : MH => mX (mE mtab d) KX11_said 53 [some (.ref 67), some (.int a1), some (.int a2)] [] h10) (a := (sI h8 68 (ix ((42 + (2 * (gI h8 68 5))) + 1)) a2)) (a' := (sI h8 68 (ix ((42 + (2 * (gI h8 68 5))) + 1)) a2)) rfl fun h10 eh10 => ?_
          have L10 : lay h10 := eh10 ▸ layI L8 (by decide)
          refine mX_to 1 (k' := 54) (ls' := [some (.ref 67), some (.int a1), some (.int a2)]) (st' := [.ref 67]) (h' := h10) rfl ?_
          refine mX_ckv (v := .ref (gR h10 67 0)) (v' := .ref 68) (k' := 55) (ls' := [some (.ref 67), some (.int a1), some (.int a2)]) (st' := []) (h' := h10) (k_67 L10) (congrArg Value.ref (r_67_0 L10)) rfl ?_
          refine mX_to 2 (k' := 57) (ls' := [some (.ref 67), some (.int a1), some (.int a2)]) (st' := [.int 5, .ref 68, .int 5, .ref 68]) (h' := h10) rfl ?_
          refine mX_ckv (v := .int (gI h10 68 (ix (5 : Int32)))) (v' := .int (gI h10 68 5)) (k' := 58) (ls' := [some (.ref 67), some (.int a1), some (.int a2)]) (st' := [.int 5, .ref 68]) (h' := h10) ((ckA1 (k_68 L10) (n_68 L10)).mpr (ib_lit (n := 5) rfl (by decide) (by decide))) (congrArg (fun j => Value.int (gI h10 68 j)) (ix_lit (n := 5) rfl (by decide))) rfl ?_
          refine mX_to 2 (k' := 60) (ls' := [some (.ref 67), some (.int a1), some (.int a2)]) (st' := [.int ((gI h10 68 5) + 1), .int 5, .ref 68]) (h' := h10) rfl ?_
          refine mX_ckt (k' := 61) (ls' := [some (.ref 67), some (.int a1), some (.int a2)]) (st' := []) (h' := (sI h10 68 (ix (5 : Int32)) ((gI h10 68 5) + 1))) ((ckA0 (k_68 L10) (n_68 L10)).mpr (ib_lit (n := 5) rfl (by decide) (by decide))) rfl ?_
          refine lt_geq2 (X := fun h12 : MH => mX (mE mtab d) KX11_said 61 [some (.ref 67), some (.int a1), some (.int a2)] [] h12) (a := (sI h10 68 (ix (5 : Int32)) ((gI h10 68 5) + 1))) (a' := (sI h10 68 5 ((gI h10 68 5) + 1))) (congrArg (fun j => sI h10 68 j ((gI h10 68 5) + 1)) (ix_lit (n := 5) rfl (by decide))) fun h12 eh12 => ?_
          have L12 : lay h12 := eh12 ▸ layI L10 (by decide)
          refine mX_to 1 (k' := 62) (ls' := [some (.ref 67), some (.int a1), some (.int a2)]) (st' := [.ref 67]) (h' := h12) rfl ?_
          refine mX_ckv (v := .ref (gR h12 67 0)) (v' := .ref 68) (k' := 63) (ls' := [some (.ref 67), some (.int a1), some (.int a2)]) (st' := []) (h' := h12) (k_67 L12) (congrArg Value.ref (r_67_0 L12)) rfl ?_
          refine mX_to 1 (k' := 64) (ls' := [some (.ref 67), some (.int a1), some (.int a2)]) (st' := [.int 5, .ref 68]) (h' := h12) rfl ?_
          refine mX_ckv (v := .int (gI h12 68 (ix (5 : Int32)))) (v' := .int (gI h12 68 5)) (k' := 65) (ls' := [some (.ref 67), some (.int a1), some (.int a2)]) (st' := []) (h' := h12) ((ckA1 (k_68 L12) (n_68 L12)).mpr (ib_lit (n := 5) rfl (by decide) (by decide))) (congrArg (fun j => Value.int (gI h12 68 j)) (ix_lit (n := 5) rfl (by decide))) rfl ?_
          exact mX_reti rfl
theorem S_X0_agrees_2 {h : MH} (L : lay h) (d : Nat) (l1 : Nat) (l2 : Int32) : G_X0_agrees_2 d l1 l2 h = (if l2 < (gI h 9 8) then ck (ib l2 8) (cI (F_X9_slidesBy d 10 l1 (gI h 24 (ix l2)) h) (fun x2 h1 => ck (ib l2 8) ((if x2 = (gI h1 25 (ix l2)) then G_X0_agrees_2 d l1 (l2 + 1) h1 else some (.int 0, h1))))) else some (.int 1, h)) := by
  refine mX_to 2 (k' := 4) (ls' := [some (.ref 9), some (.ref l1), some (.int l2)]) (st' := [.ref 9, .int l2]) (h' := h) rfl ?_
  refine mX_ckv (v := .int (gI h 9 8)) (v' := .int (gI h 9 8)) (k' := 5) (ls' := [some (.ref 9), some (.ref l1), some (.int l2)]) (st' := [.int l2]) (h' := h) (k_9 L) rfl rfl ?_
  refine mX_br (t := 6) (f := 23) (ls' := [some (.ref 9), some (.ref l1), some (.int l2)]) (st' := []) (h' := h) rfl ?_ ?_
  · refine mX_to 1 (k' := 7) (ls' := [some (.ref 9), some (.ref l1), some (.int l2)]) (st' := [.ref 9]) (h' := h) rfl ?_
    refine mX_ckv (v := .ref (gR h 9 0)) (v' := .ref 10) (k' := 8) (ls' := [some (.ref 9), some (.ref l1), some (.int l2)]) (st' := []) (h' := h) (k_9 L) (congrArg Value.ref (r_9_0 L)) rfl ?_
    refine mX_to 2 (k' := 10) (ls' := [some (.ref 9), some (.ref l1), some (.int l2)]) (st' := [.ref 9, .ref l1, .ref 10]) (h' := h) rfl ?_
    refine mX_ckv (v := .ref (gR h 9 6)) (v' := .ref 24) (k' := 11) (ls' := [some (.ref 9), some (.ref l1), some (.int l2)]) (st' := [.ref l1, .ref 10]) (h' := h) (k_9 L) (congrArg Value.ref (r_9_6 L)) rfl ?_
    refine mX_to 1 (k' := 12) (ls' := [some (.ref 9), some (.ref l1), some (.int l2)]) (st' := [.int l2, .ref 24, .ref l1, .ref 10]) (h' := h) rfl ?_
    refine mX_ckw (v := .int (gI h 24 (ix l2))) (v' := .int (gI h 24 (ix l2))) (k' := 13) (ls' := [some (.ref 9), some (.ref l1), some (.int l2)]) (st' := [.ref l1, .ref 10]) (h' := h) (ckA1 (k_24 L) (n_24 L)) rfl rfl fun c4 => ?_
    refine mX_ckct (m := mcl (mE mtab d 188 [.ref 10, .ref l1, .int (gI h 24 (ix l2))] h) 1 14 [some (.ref 9), some (.ref l1), some (.int l2)] []) (k_10 L) rfl ?_
    refine mk_cIe (o := F_X9_slidesBy d 10 l1 (gI h 24 (ix l2)) h) ?_
    intro x2 h1 eh1
    have L1 : lay h1 := lay_call d 188 [.ref 10, .ref l1, .int (gI h 24 (ix l2))] h _ h1 rfl eh1 L
    refine mX_to 1 (k' := 15) (ls' := [some (.ref 9), some (.ref l1), some (.int l2)]) (st' := [.ref 9, .int x2]) (h' := h1) rfl ?_
    refine mX_ckv (v := .ref (gR h1 9 7)) (v' := .ref 25) (k' := 16) (ls' := [some (.ref 9), some (.ref l1), some (.int l2)]) (st' := [.int x2]) (h' := h1) (k_9 L1) (congrArg Value.ref (r_9_7 L1)) rfl ?_
    refine mX_to 1 (k' := 17) (ls' := [some (.ref 9), some (.ref l1), some (.int l2)]) (st' := [.int l2, .ref 25, .int x2]) (h' := h1) rfl ?_
    refine mX_ckw (v := .int (gI h1 25 (ix l2))) (v' := .int (gI h1 25 (ix l2))) (k' := 18) (ls' := [some (.ref 9), some (.ref l1), some (.int l2)]) (st' := [.int x2]) (h' := h1) (ckA1 (k_25 L1) (n_25 L1)) rfl rfl fun c3 => ?_
    refine mX_br (t := 21) (f := 19) (ls' := [some (.ref 9), some (.ref l1), some (.int l2)]) (st' := []) (h' := h1) rfl ?_ ?_
    · refine mX_to 2 (k' := 2) (ls' := [some (.ref 9), some (.ref l1), some (.int (l2 + 1))]) (st' := []) (h' := h1) rfl ?_
      rfl
    · refine mX_to 1 (k' := 20) (ls' := [some (.ref 9), some (.ref l1), some (.int l2)]) (st' := [.int 0]) (h' := h1) rfl ?_
      exact mX_retb (by decide) rfl
  · refine mX_to 1 (k' := 24) (ls' := [some (.ref 9), some (.ref l1), some (.int l2)]) (st' := [.int 1]) (h' := h) rfl ?_
    exact mX_retb (by decide) rfl
theorem S_X0_agrees {h : MH} (L : lay h) (d : Nat) (a1 : Nat) : F_X0_agrees (d + 1) a1 h = G_X0_agrees_2 d a1 0 h := by
  refine mE_eq (q := (yX0_agrees, cX0_agrees, 3, (some .boolean), KX0_agrees)) (C := KX0_agrees) (ls := [some (.ref 9), some (.ref a1), none]) rfl rfl rfl rfl ?_
  refine mX_to 2 (k' := 2) (ls' := [some (.ref 9), some (.ref a1), some (.int 0)]) (st' := []) (h' := h) rfl ?_
  rfl
theorem S_X10_whose_4 {h : MH} (L : lay h) (d : Nat) (l1 : Int32) (l2 : Int32) : G_X10_whose_4 d l1 l2 h = (if l2 < (gI h 9 4) then ck (ib l2 4) (cI (F_X0_agrees d (gR h 23 (ix l2)) h) (fun x2 h1 => (if x2 = 0 then G_X10_whose_24 d l1 l2 h1 else lt_ (l1 ||| (1 <<< (l2 &&& 31))) fun v3 => G_X10_whose_24 d v3 l2 h1))) else some (.int l1, h)) := by
  refine mX_to 2 (k' := 6) (ls' := [some (.ref 8), some (.int l1), some (.int l2)]) (st' := [.ref 8, .int l2]) (h' := h) rfl ?_
  refine mX_ckv (v := .ref (gR h 8 0)) (v' := .ref 9) (k' := 7) (ls' := [some (.ref 8), some (.int l1), some (.int l2)]) (st' := [.int l2]) (h' := h) (k_8 L) (congrArg Value.ref (r_8_0 L)) rfl ?_
  refine mX_ckv (v := .int (gI h 9 4)) (v' := .int (gI h 9 4)) (k' := 8) (ls' := [some (.ref 8), some (.int l1), some (.int l2)]) (st' := [.int l2]) (h' := h) (k_9 L) rfl rfl ?_
  refine mX_br (t := 9) (f := 26) (ls' := [some (.ref 8), some (.int l1), some (.int l2)]) (st' := []) (h' := h) rfl ?_ ?_
  · refine mX_to 1 (k' := 10) (ls' := [some (.ref 8), some (.int l1), some (.int l2)]) (st' := [.ref 8]) (h' := h) rfl ?_
    refine mX_ckv (v := .ref (gR h 8 0)) (v' := .ref 9) (k' := 11) (ls' := [some (.ref 8), some (.int l1), some (.int l2)]) (st' := []) (h' := h) (k_8 L) (congrArg Value.ref (r_8_0 L)) rfl ?_
    refine mX_to 1 (k' := 12) (ls' := [some (.ref 8), some (.int l1), some (.int l2)]) (st' := [.ref 8, .ref 9]) (h' := h) rfl ?_
    refine mX_ckv (v := .ref (gR h 8 0)) (v' := .ref 9) (k' := 13) (ls' := [some (.ref 8), some (.int l1), some (.int l2)]) (st' := [.ref 9]) (h' := h) (k_8 L) (congrArg Value.ref (r_8_0 L)) rfl ?_
    refine mX_ckv (v := .ref (gR h 9 3)) (v' := .ref 23) (k' := 14) (ls' := [some (.ref 8), some (.int l1), some (.int l2)]) (st' := [.ref 9]) (h' := h) (k_9 L) (congrArg Value.ref (r_9_3 L)) rfl ?_
    refine mX_to 1 (k' := 15) (ls' := [some (.ref 8), some (.int l1), some (.int l2)]) (st' := [.int l2, .ref 23, .ref 9]) (h' := h) rfl ?_
    refine mX_ckw (v := .ref (gR h 23 (ix l2))) (v' := .ref (gR h 23 (ix l2))) (k' := 16) (ls' := [some (.ref 8), some (.int l1), some (.int l2)]) (st' := [.ref 9]) (h' := h) (ckA0 (k_23 L) (n_23 L)) rfl rfl fun c4 => ?_
    refine mX_ckct (m := mcl (mE mtab d 314 [.ref 9, .ref (gR h 23 (ix l2))] h) 1 17 [some (.ref 8), some (.int l1), some (.int l2)] []) (k_9 L) rfl ?_
    refine mk_cIe (o := F_X0_agrees d (gR h 23 (ix l2)) h) ?_
    intro x2 h1 eh1
    have L1 : lay h1 := lay_call d 314 [.ref 9, .ref (gR h 23 (ix l2))] h _ h1 rfl eh1 L
    refine mX_br (t := 24) (f := 18) (ls' := [some (.ref 8), some (.int l1), some (.int l2)]) (st' := []) (h' := h1) rfl ?_ ?_
    · rfl
    · refine mX_to 5 (k' := 23) (ls' := [some (.ref 8), some (.int l1), some (.int l2)]) (st' := [.int (l1 ||| (1 <<< (l2 &&& 31)))]) (h' := h1) rfl ?_
      refine lt_gen (X := fun v3 : Int32 => mX (mE mtab d) KX10_whose 23 [some (.ref 8), some (.int l1), some (.int l2)] [.int v3] h1) fun v3 => ?_
      refine mX_to 1 (k' := 24) (ls' := [some (.ref 8), some (.int v3), some (.int l2)]) (st' := []) (h' := h1) rfl ?_
      rfl
  · refine mX_to 1 (k' := 27) (ls' := [some (.ref 8), some (.int l1), some (.int l2)]) (st' := [.int l1]) (h' := h) rfl ?_
    exact mX_reti rfl
theorem S_X10_whose_24 {h : MH} (L : lay h) (d : Nat) (l1 : Int32) (l2 : Int32) : G_X10_whose_24 d l1 l2 h = G_X10_whose_4 d l1 (l2 + 1) h := by
  refine mX_to 2 (k' := 4) (ls' := [some (.ref 8), some (.int l1), some (.int (l2 + 1))]) (st' := []) (h' := h) rfl ?_
  rfl
theorem S_X10_whose {h : MH} (L : lay h) (d : Nat) : F_X10_whose (d + 1) h = G_X10_whose_4 d 0 0 h := by
  refine mE_eq (q := (yX10_whose, cX10_whose, 3, (some .int), KX10_whose)) (C := KX10_whose) (ls := [some (.ref 8), none, none]) rfl rfl rfl rfl ?_
  refine mX_to 4 (k' := 4) (ls' := [some (.ref 8), some (.int 0), some (.int 0)]) (st' := []) (h' := h) rfl ?_
  rfl
theorem S_X11_whose_4 {h : MH} (L : lay h) (d : Nat) (l1 : Int32) (l2 : Int32) (o3 : Option Value) (o4 : Option Value) : G_X11_whose_4 d l1 l2 o3 o4 h = (if l2 < (gI h 68 2) then G_X11_whose_14 d l1 l2 1 42 h else some (.int l1, h)) := by
  refine mX_to 2 (k' := 6) (ls' := [some (.ref 67), some (.int l1), some (.int l2), o3, o4]) (st' := [.ref 67, .int l2]) (h' := h) rfl ?_
  refine mX_ckv (v := .ref (gR h 67 0)) (v' := .ref 68) (k' := 7) (ls' := [some (.ref 67), some (.int l1), some (.int l2), o3, o4]) (st' := [.int l2]) (h' := h) (k_67 L) (congrArg Value.ref (r_67_0 L)) rfl ?_
  refine mX_to 1 (k' := 8) (ls' := [some (.ref 67), some (.int l1), some (.int l2), o3, o4]) (st' := [.int 2, .ref 68, .int l2]) (h' := h) rfl ?_
  refine mX_ckv (v := .int (gI h 68 (ix (2 : Int32)))) (v' := .int (gI h 68 2)) (k' := 9) (ls' := [some (.ref 67), some (.int l1), some (.int l2), o3, o4]) (st' := [.int l2]) (h' := h) ((ckA1 (k_68 L) (n_68 L)).mpr (ib_lit (n := 2) rfl (by decide) (by decide))) (congrArg (fun j => Value.int (gI h 68 j)) (ix_lit (n := 2) rfl (by decide))) rfl ?_
  refine mX_br (t := 10) (f := 58) (ls' := [some (.ref 67), some (.int l1), some (.int l2), o3, o4]) (st' := []) (h' := h) rfl ?_ ?_
  · refine mX_to 4 (k' := 14) (ls' := [some (.ref 67), some (.int l1), some (.int l2), some (.int 1), some (.int 42)]) (st' := []) (h' := h) rfl ?_
    rfl
  · refine mX_to 1 (k' := 59) (ls' := [some (.ref 67), some (.int l1), some (.int l2), o3, o4]) (st' := [.int l1]) (h' := h) rfl ?_
    exact mX_reti rfl
theorem S_X11_whose_14 {h : MH} (L : lay h) (d : Nat) (l1 : Int32) (l2 : Int32) (l3 : Int32) (l4 : Int32) : G_X11_whose_14 d l1 l2 l3 l4 h = (if l4 < (42 + (2 * (gI h 68 5))) then (if l3 = 0 then G_X11_whose_42 d l1 l2 l3 l4 h else ck (ib l4 1498) (cI (F_X11_slidesOf d l2 (gI h 68 (ix l4)) h) (fun x2 h1 => ck (ib (l4 + 1) 1498) ((if x2 = (gI h1 68 (ix (l4 + 1))) then G_X11_whose_43 d l1 l2 l3 l4 1 h1 else G_X11_whose_42 d l1 l2 l3 l4 h1))))) else (if l3 = 0 then G_X11_whose_54 d l1 l2 l3 l4 0 l1 h else G_X11_whose_54 d l1 l2 l3 l4 (1 <<< (l2 &&& 31)) l1 h)) := by
  refine mX_to 4 (k' := 18) (ls' := [some (.ref 67), some (.int l1), some (.int l2), some (.int l3), some (.int l4)]) (st' := [.ref 67, .int 2, .int 42, .int l4]) (h' := h) rfl ?_
  refine mX_ckv (v := .ref (gR h 67 0)) (v' := .ref 68) (k' := 19) (ls' := [some (.ref 67), some (.int l1), some (.int l2), some (.int l3), some (.int l4)]) (st' := [.int 2, .int 42, .int l4]) (h' := h) (k_67 L) (congrArg Value.ref (r_67_0 L)) rfl ?_
  refine mX_to 1 (k' := 20) (ls' := [some (.ref 67), some (.int l1), some (.int l2), some (.int l3), some (.int l4)]) (st' := [.int 5, .ref 68, .int 2, .int 42, .int l4]) (h' := h) rfl ?_
  refine mX_ckv (v := .int (gI h 68 (ix (5 : Int32)))) (v' := .int (gI h 68 5)) (k' := 21) (ls' := [some (.ref 67), some (.int l1), some (.int l2), some (.int l3), some (.int l4)]) (st' := [.int 2, .int 42, .int l4]) (h' := h) ((ckA1 (k_68 L) (n_68 L)).mpr (ib_lit (n := 5) rfl (by decide) (by decide))) (congrArg (fun j => Value.int (gI h 68 j)) (ix_lit (n := 5) rfl (by decide))) rfl ?_
  refine mX_to 2 (k' := 23) (ls' := [some (.ref 67), some (.int l1), some (.int l2), some (.int l3), some (.int l4)]) (st' := [.int (42 + (2 * (gI h 68 5))), .int l4]) (h' := h) rfl ?_
  refine mX_br (t := 24) (f := 46) (ls' := [some (.ref 67), some (.int l1), some (.int l2), some (.int l3), some (.int l4)]) (st' := []) (h' := h) rfl ?_ ?_
  · refine mX_to 1 (k' := 25) (ls' := [some (.ref 67), some (.int l1), some (.int l2), some (.int l3), some (.int l4)]) (st' := [.int l3]) (h' := h) rfl ?_
    refine mX_br (t := 42) (f := 26) (ls' := [some (.ref 67), some (.int l1), some (.int l2), some (.int l3), some (.int l4)]) (st' := []) (h' := h) rfl ?_ ?_
    · rfl
    · refine mX_to 3 (k' := 29) (ls' := [some (.ref 67), some (.int l1), some (.int l2), some (.int l3), some (.int l4)]) (st' := [.ref 67, .int l2, .ref 67]) (h' := h) rfl ?_
      refine mX_ckv (v := .ref (gR h 67 0)) (v' := .ref 68) (k' := 30) (ls' := [some (.ref 67), some (.int l1), some (.int l2), some (.int l3), some (.int l4)]) (st' := [.int l2, .ref 67]) (h' := h) (k_67 L) (congrArg Value.ref (r_67_0 L)) rfl ?_
      refine mX_to 1 (k' := 31) (ls' := [some (.ref 67), some (.int l1), some (.int l2), some (.int l3), some (.int l4)]) (st' := [.int l4, .ref 68, .int l2, .ref 67]) (h' := h) rfl ?_
      refine mX_ckw (v := .int (gI h 68 (ix l4))) (v' := .int (gI h 68 (ix l4))) (k' := 32) (ls' := [some (.ref 67), some (.int l1), some (.int l2), some (.int l3), some (.int l4)]) (st' := [.int l2, .ref 67]) (h' := h) (ckA1 (k_68 L) (n_68 L)) rfl rfl fun c4 => ?_
      refine mX_ckct (m := mcl (mE mtab d 196 [.ref 67, .int l2, .int (gI h 68 (ix l4))] h) 1 33 [some (.ref 67), some (.int l1), some (.int l2), some (.int l3), some (.int l4)] []) (k_67 L) rfl ?_
      refine mk_cIe (o := F_X11_slidesOf d l2 (gI h 68 (ix l4)) h) ?_
      intro x2 h1 eh1
      have L1 : lay h1 := lay_call d 196 [.ref 67, .int l2, .int (gI h 68 (ix l4))] h _ h1 rfl eh1 L
      refine mX_to 1 (k' := 34) (ls' := [some (.ref 67), some (.int l1), some (.int l2), some (.int l3), some (.int l4)]) (st' := [.ref 67, .int x2]) (h' := h1) rfl ?_
      refine mX_ckv (v := .ref (gR h1 67 0)) (v' := .ref 68) (k' := 35) (ls' := [some (.ref 67), some (.int l1), some (.int l2), some (.int l3), some (.int l4)]) (st' := [.int x2]) (h' := h1) (k_67 L1) (congrArg Value.ref (r_67_0 L1)) rfl ?_
      refine mX_to 3 (k' := 38) (ls' := [some (.ref 67), some (.int l1), some (.int l2), some (.int l3), some (.int l4)]) (st' := [.int (l4 + 1), .ref 68, .int x2]) (h' := h1) rfl ?_
      refine mX_ckw (v := .int (gI h1 68 (ix (l4 + 1)))) (v' := .int (gI h1 68 (ix (l4 + 1)))) (k' := 39) (ls' := [some (.ref 67), some (.int l1), some (.int l2), some (.int l3), some (.int l4)]) (st' := [.int x2]) (h' := h1) (ckA1 (k_68 L1) (n_68 L1)) rfl rfl fun c3 => ?_
      refine mX_br (t := 40) (f := 42) (ls' := [some (.ref 67), some (.int l1), some (.int l2), some (.int l3), some (.int l4)]) (st' := []) (h' := h1) rfl ?_ ?_
      · refine mX_to 2 (k' := 43) (ls' := [some (.ref 67), some (.int l1), some (.int l2), some (.int l3), some (.int l4)]) (st' := [.int 1]) (h' := h1) rfl ?_
        rfl
      · rfl
  · refine mX_to 2 (k' := 48) (ls' := [some (.ref 67), some (.int l1), some (.int l2), some (.int l3), some (.int l4)]) (st' := [.int l3, .int l1]) (h' := h) rfl ?_
    refine mX_br (t := 53) (f := 49) (ls' := [some (.ref 67), some (.int l1), some (.int l2), some (.int l3), some (.int l4)]) (st' := [.int l1]) (h' := h) rfl ?_ ?_
    · refine mX_to 1 (k' := 54) (ls' := [some (.ref 67), some (.int l1), some (.int l2), some (.int l3), some (.int l4)]) (st' := [.int 0, .int l1]) (h' := h) rfl ?_
      rfl
    · refine mX_to 4 (k' := 54) (ls' := [some (.ref 67), some (.int l1), some (.int l2), some (.int l3), some (.int l4)]) (st' := [.int (1 <<< (l2 &&& 31)), .int l1]) (h' := h) rfl ?_
      rfl
theorem S_X11_whose_42 {h : MH} (L : lay h) (d : Nat) (l1 : Int32) (l2 : Int32) (l3 : Int32) (l4 : Int32) : G_X11_whose_42 d l1 l2 l3 l4 h = G_X11_whose_43 d l1 l2 l3 l4 0 h := by
  refine mX_to 1 (k' := 43) (ls' := [some (.ref 67), some (.int l1), some (.int l2), some (.int l3), some (.int l4)]) (st' := [.int 0]) (h' := h) rfl ?_
  rfl
theorem S_X11_whose_43 {h : MH} (L : lay h) (d : Nat) (l1 : Int32) (l2 : Int32) (l3 : Int32) (l4 : Int32) (s0 : Int32) : G_X11_whose_43 d l1 l2 l3 l4 s0 h = G_X11_whose_14 d l1 l2 s0 (l4 + 2) h := by
  refine mX_to 3 (k' := 14) (ls' := [some (.ref 67), some (.int l1), some (.int l2), some (.int s0), some (.int (l4 + 2))]) (st' := []) (h' := h) rfl ?_
  rfl
theorem S_X11_whose_54 {h : MH} (L : lay h) (d : Nat) (l1 : Int32) (l2 : Int32) (l3 : Int32) (l4 : Int32) (s0 : Int32) (s1 : Int32) : G_X11_whose_54 d l1 l2 l3 l4 s0 s1 h = G_X11_whose_4 d (s1 ||| s0) (l2 + 1) (some (.int l3)) (some (.int l4)) h := by
  refine mX_to 4 (k' := 4) (ls' := [some (.ref 67), some (.int (s1 ||| s0)), some (.int (l2 + 1)), some (.int l3), some (.int l4)]) (st' := []) (h' := h) rfl ?_
  rfl
theorem S_X11_whose {h : MH} (L : lay h) (d : Nat) : F_X11_whose (d + 1) h = G_X11_whose_4 d 0 0 none none h := by
  refine mE_eq (q := (yX11_whose, cX11_whose, 5, (some .int), KX11_whose)) (C := KX11_whose) (ls := [some (.ref 67), none, none, none, none]) rfl rfl rfl rfl ?_
  refine mX_to 4 (k' := 4) (ls' := [some (.ref 67), some (.int 0), some (.int 0), none, none]) (st' := []) (h' := h) rfl ?_
  rfl
