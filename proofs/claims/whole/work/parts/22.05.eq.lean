--deps:19.lay 21.facts 22.00.names
/-! EQUATIONS over the fixed cells (written by wip/gen/sgen.py) -/
theorem S_X11_w4 {h : MH} (L : lay h) (d : Nat) (a0 : Int32) (a1 : Int32) (a2 : Int32) (a3 : Int32) : F_X11_w4 (d + 1) a0 a1 a2 a3 h = cL (F_X11_w3 d a0 a1 a2 h) (fun x2 h1 => some (.long ((x2 <<< ((8 : Int32).toInt64 &&& 63)) ||| ((a3 : Int32).toInt64)), h1)) := by
  refine mE_eq (q := (yX11_w4, cX11_w4, 4, (some .long), KX11_w4)) (C := KX11_w4) (ls := [some (.int a0), some (.int a1), some (.int a2), some (.int a3)]) rfl rfl rfl rfl ?_
  refine mX_to 3 (k' := 3) (ls' := [some (.int a0), some (.int a1), some (.int a2), some (.int a3)]) (st' := [.int a2, .int a1, .int a0]) (h' := h) rfl ?_
  refine mX_cLe (o := F_X11_w3 d a0 a1 a2 h) (k' := 4) (ls' := [some (.int a0), some (.int a1), some (.int a2), some (.int a3)]) (st' := []) rfl ?_
  intro x2 h1 eh1
  have L1 : lay h1 := lay_call d 102 [.int a0, .int a1, .int a2] h _ h1 rfl eh1 L
  refine mX_to 5 (k' := 9) (ls' := [some (.int a0), some (.int a1), some (.int a2), some (.int a3)]) (st' := [.long ((x2 <<< ((8 : Int32).toInt64 &&& 63)) ||| ((a3 : Int32).toInt64))]) (h' := h1) rfl ?_
  exact mX_ret rfl
theorem S_X11_isWord {h : MH} (L : lay h) (d : Nat) (a1 : Int64) : F_X11_isWord (d + 1) a1 h = (if (gI h 67 9) = 2 then (if (lg_cmp (gL h 67 11) a1) = 0 then some (.int 1, h) else some (.int 0, h)) else some (.int 0, h)) := by
  refine mE_eq (q := (yX11_isWord, cX11_isWord, 3, (some .boolean), KX11_isWord)) (C := KX11_isWord) (ls := [some (.ref 67), some (.long a1), none]) rfl rfl rfl rfl ?_
  refine mX_to 1 (k' := 1) (ls' := [some (.ref 67), some (.long a1), none]) (st' := [.ref 67]) (h' := h) rfl ?_
  refine mX_ckv (v := .int (gI h 67 9)) (v' := .int (gI h 67 9)) (k' := 2) (ls' := [some (.ref 67), some (.long a1), none]) (st' := []) (h' := h) (k_67 L) rfl rfl ?_
  refine mX_to 1 (k' := 3) (ls' := [some (.ref 67), some (.long a1), none]) (st' := [.int 2, .int (gI h 67 9)]) (h' := h) rfl ?_
  refine mX_br (t := 4) (f := 11) (ls' := [some (.ref 67), some (.long a1), none]) (st' := []) (h' := h) rfl ?_ ?_
  · refine mX_to 1 (k' := 5) (ls' := [some (.ref 67), some (.long a1), none]) (st' := [.ref 67]) (h' := h) rfl ?_
    refine mX_ckv (v := .long (gL h 67 11)) (v' := .long (gL h 67 11)) (k' := 6) (ls' := [some (.ref 67), some (.long a1), none]) (st' := []) (h' := h) (k_67 L) rfl rfl ?_
    refine mX_to 2 (k' := 8) (ls' := [some (.ref 67), some (.long a1), none]) (st' := [.int (lg_cmp (gL h 67 11) a1)]) (h' := h) rfl ?_
    refine mX_br (t := 9) (f := 11) (ls' := [some (.ref 67), some (.long a1), none]) (st' := []) (h' := h) rfl ?_ ?_
    · refine mX_to 2 (k' := 12) (ls' := [some (.ref 67), some (.long a1), none]) (st' := [.int 1]) (h' := h) rfl ?_
      exact mX_retb (by decide) rfl
    · refine mX_to 1 (k' := 12) (ls' := [some (.ref 67), some (.long a1), none]) (st' := [.int 0]) (h' := h) rfl ?_
      exact mX_retb (by decide) rfl
  · refine mX_to 1 (k' := 12) (ls' := [some (.ref 67), some (.long a1), none]) (st' := [.int 0]) (h' := h) rfl ?_
    exact mX_retb (by decide) rfl
theorem S_X11_w5 {h : MH} (L : lay h) (d : Nat) (a0 : Int32) (a1 : Int32) (a2 : Int32) (a3 : Int32) (a4 : Int32) : F_X11_w5 (d + 1) a0 a1 a2 a3 a4 h = cL (F_X11_w4 d a0 a1 a2 a3 h) (fun x2 h1 => some (.long ((x2 <<< ((8 : Int32).toInt64 &&& 63)) ||| ((a4 : Int32).toInt64)), h1)) := by
  refine mE_eq (q := (yX11_w5, cX11_w5, 5, (some .long), KX11_w5)) (C := KX11_w5) (ls := [some (.int a0), some (.int a1), some (.int a2), some (.int a3), some (.int a4)]) rfl rfl rfl rfl ?_
  refine mX_to 4 (k' := 4) (ls' := [some (.int a0), some (.int a1), some (.int a2), some (.int a3), some (.int a4)]) (st' := [.int a3, .int a2, .int a1, .int a0]) (h' := h) rfl ?_
  refine mX_cLe (o := F_X11_w4 d a0 a1 a2 a3 h) (k' := 5) (ls' := [some (.int a0), some (.int a1), some (.int a2), some (.int a3), some (.int a4)]) (st' := []) rfl ?_
  intro x2 h1 eh1
  have L1 : lay h1 := lay_call d 103 [.int a0, .int a1, .int a2, .int a3] h _ h1 rfl eh1 L
  refine mX_to 5 (k' := 10) (ls' := [some (.int a0), some (.int a1), some (.int a2), some (.int a3), some (.int a4)]) (st' := [.long ((x2 <<< ((8 : Int32).toInt64 &&& 63)) ||| ((a4 : Int32).toInt64))]) (h' := h1) rfl ?_
  exact mX_ret rfl
theorem S_X11_w6 {h : MH} (L : lay h) (d : Nat) (a0 : Int32) (a1 : Int32) (a2 : Int32) (a3 : Int32) (a4 : Int32) (a5 : Int32) : F_X11_w6 (d + 1) a0 a1 a2 a3 a4 a5 h = cL (F_X11_w5 d a0 a1 a2 a3 a4 h) (fun x2 h1 => some (.long ((x2 <<< ((8 : Int32).toInt64 &&& 63)) ||| ((a5 : Int32).toInt64)), h1)) := by
  refine mE_eq (q := (yX11_w6, cX11_w6, 6, (some .long), KX11_w6)) (C := KX11_w6) (ls := [some (.int a0), some (.int a1), some (.int a2), some (.int a3), some (.int a4), some (.int a5)]) rfl rfl rfl rfl ?_
  refine mX_to 5 (k' := 5) (ls' := [some (.int a0), some (.int a1), some (.int a2), some (.int a3), some (.int a4), some (.int a5)]) (st' := [.int a4, .int a3, .int a2, .int a1, .int a0]) (h' := h) rfl ?_
  refine mX_cLe (o := F_X11_w5 d a0 a1 a2 a3 a4 h) (k' := 6) (ls' := [some (.int a0), some (.int a1), some (.int a2), some (.int a3), some (.int a4), some (.int a5)]) (st' := []) rfl ?_
  intro x2 h1 eh1
  have L1 : lay h1 := lay_call d 105 [.int a0, .int a1, .int a2, .int a3, .int a4] h _ h1 rfl eh1 L
  refine mX_to 5 (k' := 11) (ls' := [some (.int a0), some (.int a1), some (.int a2), some (.int a3), some (.int a4), some (.int a5)]) (st' := [.long ((x2 <<< ((8 : Int32).toInt64 &&& 63)) ||| ((a5 : Int32).toInt64))]) (h' := h1) rfl ?_
  exact mX_ret rfl
theorem S_X11_sortOf {h : MH} (L : lay h) (d : Nat) : F_X11_sortOf (d + 1) h = cL (F_X11_w4 d 116 105 112 115 h) (fun x2 h1 => cI (F_X11_isWord d x2 h1) (fun x4 h3 => (if x4 = 0 then cL (F_X11_w6 d 115 108 105 100 101 115 h3) (fun x6 h5 => cI (F_X11_isWord d x6 h5) (fun x8 h7 => (if x8 = 0 then cL (F_X11_w6 d 112 101 114 115 111 110 h7) (fun x10 h9 => cI (F_X11_isWord d x10 h9) (fun x12 h11 => (if x12 = 0 then cL (F_X11_w4 d 103 111 97 108 h11) (fun x14 h13 => cI (F_X11_isWord d x14 h13) (fun x16 h15 => (if x16 = 0 then cL (F_X11_w4 d 108 101 102 116 h15) (fun x18 h17 => cI (F_X11_isWord d x18 h17) (fun x20 h19 => (if x20 = 0 then cL (F_X11_w5 d 114 105 103 104 116 h19) (fun x22 h21 => cI (F_X11_isWord d x22 h21) (fun x24 h23 => (if x24 = 0 then cL (F_X11_w6 d 115 104 111 118 101 108 h23) (fun x26 h25 => cI (F_X11_isWord d x26 h25) (fun x28 h27 => (if x28 = 0 then cL (F_X11_w4 d 104 111 117 114 h27) (fun x30 h29 => cI (F_X11_isWord d x30 h29) (fun x32 h31 => (if x32 = 0 then some (.int (-1), h31) else some (.int 7, h31)))) else some (.int 6, h27)))) else some (.int 5, h23)))) else some (.int 4, h19)))) else some (.int 3, h15)))) else some (.int 2, h11)))) else some (.int 1, h7)))) else some (.int 0, h3)))) := by
  refine mE_eq (q := (yX11_sortOf, cX11_sortOf, 1, (some .int), KX11_sortOf)) (C := KX11_sortOf) (ls := [some (.ref 67)]) rfl rfl rfl rfl ?_
  refine mX_to 5 (k' := 5) (ls' := [some (.ref 67)]) (st' := [.int 115, .int 112, .int 105, .int 116, .ref 67]) (h' := h) rfl ?_
  refine mX_cLe (o := F_X11_w4 d 116 105 112 115 h) (k' := 6) (ls' := [some (.ref 67)]) (st' := [.ref 67]) rfl ?_
  intro x2 h1 eh1
  have L1 : lay h1 := lay_call d 103 [.int 116, .int 105, .int 112, .int 115] h _ h1 rfl eh1 L
  refine mX_ckct (m := mcl (mE mtab d 104 [.ref 67, .long x2] h1) 1 7 [some (.ref 67)] []) (k_67 L1) rfl ?_
  refine mk_cIe (o := F_X11_isWord d x2 h1) ?_
  intro x4 h3 eh3
  have L3 : lay h3 := lay_call d 104 [.ref 67, .long x2] h1 _ h3 rfl eh3 L1
  refine mX_br (t := 10) (f := 8) (ls' := [some (.ref 67)]) (st' := []) (h' := h3) rfl ?_ ?_
  · refine mX_to 7 (k' := 17) (ls' := [some (.ref 67)]) (st' := [.int 115, .int 101, .int 100, .int 105, .int 108, .int 115, .ref 67]) (h' := h3) rfl ?_
    refine mX_cLe (o := F_X11_w6 d 115 108 105 100 101 115 h3) (k' := 18) (ls' := [some (.ref 67)]) (st' := [.ref 67]) rfl ?_
    intro x6 h5 eh5
    have L5 : lay h5 := lay_call d 106 [.int 115, .int 108, .int 105, .int 100, .int 101, .int 115] h3 _ h5 rfl eh5 L3
    refine mX_ckct (m := mcl (mE mtab d 104 [.ref 67, .long x6] h5) 1 19 [some (.ref 67)] []) (k_67 L5) rfl ?_
    refine mk_cIe (o := F_X11_isWord d x6 h5) ?_
    intro x8 h7 eh7
    have L7 : lay h7 := lay_call d 104 [.ref 67, .long x6] h5 _ h7 rfl eh7 L5
    refine mX_br (t := 22) (f := 20) (ls' := [some (.ref 67)]) (st' := []) (h' := h7) rfl ?_ ?_
    · refine mX_to 7 (k' := 29) (ls' := [some (.ref 67)]) (st' := [.int 110, .int 111, .int 115, .int 114, .int 101, .int 112, .ref 67]) (h' := h7) rfl ?_
      refine mX_cLe (o := F_X11_w6 d 112 101 114 115 111 110 h7) (k' := 30) (ls' := [some (.ref 67)]) (st' := [.ref 67]) rfl ?_
      intro x10 h9 eh9
      have L9 : lay h9 := lay_call d 106 [.int 112, .int 101, .int 114, .int 115, .int 111, .int 110] h7 _ h9 rfl eh9 L7
      refine mX_ckct (m := mcl (mE mtab d 104 [.ref 67, .long x10] h9) 1 31 [some (.ref 67)] []) (k_67 L9) rfl ?_
      refine mk_cIe (o := F_X11_isWord d x10 h9) ?_
      intro x12 h11 eh11
      have L11 : lay h11 := lay_call d 104 [.ref 67, .long x10] h9 _ h11 rfl eh11 L9
      refine mX_br (t := 34) (f := 32) (ls' := [some (.ref 67)]) (st' := []) (h' := h11) rfl ?_ ?_
      · refine mX_to 5 (k' := 39) (ls' := [some (.ref 67)]) (st' := [.int 108, .int 97, .int 111, .int 103, .ref 67]) (h' := h11) rfl ?_
        refine mX_cLe (o := F_X11_w4 d 103 111 97 108 h11) (k' := 40) (ls' := [some (.ref 67)]) (st' := [.ref 67]) rfl ?_
        intro x14 h13 eh13
        have L13 : lay h13 := lay_call d 103 [.int 103, .int 111, .int 97, .int 108] h11 _ h13 rfl eh13 L11
        refine mX_ckct (m := mcl (mE mtab d 104 [.ref 67, .long x14] h13) 1 41 [some (.ref 67)] []) (k_67 L13) rfl ?_
        refine mk_cIe (o := F_X11_isWord d x14 h13) ?_
        intro x16 h15 eh15
        have L15 : lay h15 := lay_call d 104 [.ref 67, .long x14] h13 _ h15 rfl eh15 L13
        refine mX_br (t := 44) (f := 42) (ls' := [some (.ref 67)]) (st' := []) (h' := h15) rfl ?_ ?_
        · refine mX_to 5 (k' := 49) (ls' := [some (.ref 67)]) (st' := [.int 116, .int 102, .int 101, .int 108, .ref 67]) (h' := h15) rfl ?_
          refine mX_cLe (o := F_X11_w4 d 108 101 102 116 h15) (k' := 50) (ls' := [some (.ref 67)]) (st' := [.ref 67]) rfl ?_
          intro x18 h17 eh17
          have L17 : lay h17 := lay_call d 103 [.int 108, .int 101, .int 102, .int 116] h15 _ h17 rfl eh17 L15
          refine mX_ckct (m := mcl (mE mtab d 104 [.ref 67, .long x18] h17) 1 51 [some (.ref 67)] []) (k_67 L17) rfl ?_
          refine mk_cIe (o := F_X11_isWord d x18 h17) ?_
          intro x20 h19 eh19
          have L19 : lay h19 := lay_call d 104 [.ref 67, .long x18] h17 _ h19 rfl eh19 L17
          refine mX_br (t := 54) (f := 52) (ls' := [some (.ref 67)]) (st' := []) (h' := h19) rfl ?_ ?_
          · refine mX_to 6 (k' := 60) (ls' := [some (.ref 67)]) (st' := [.int 116, .int 104, .int 103, .int 105, .int 114, .ref 67]) (h' := h19) rfl ?_
            refine mX_cLe (o := F_X11_w5 d 114 105 103 104 116 h19) (k' := 61) (ls' := [some (.ref 67)]) (st' := [.ref 67]) rfl ?_
            intro x22 h21 eh21
            have L21 : lay h21 := lay_call d 105 [.int 114, .int 105, .int 103, .int 104, .int 116] h19 _ h21 rfl eh21 L19
            refine mX_ckct (m := mcl (mE mtab d 104 [.ref 67, .long x22] h21) 1 62 [some (.ref 67)] []) (k_67 L21) rfl ?_
            refine mk_cIe (o := F_X11_isWord d x22 h21) ?_
            intro x24 h23 eh23
            have L23 : lay h23 := lay_call d 104 [.ref 67, .long x22] h21 _ h23 rfl eh23 L21
            refine mX_br (t := 65) (f := 63) (ls' := [some (.ref 67)]) (st' := []) (h' := h23) rfl ?_ ?_
            · refine mX_to 7 (k' := 72) (ls' := [some (.ref 67)]) (st' := [.int 108, .int 101, .int 118, .int 111, .int 104, .int 115, .ref 67]) (h' := h23) rfl ?_
              refine mX_cLe (o := F_X11_w6 d 115 104 111 118 101 108 h23) (k' := 73) (ls' := [some (.ref 67)]) (st' := [.ref 67]) rfl ?_
              intro x26 h25 eh25
              have L25 : lay h25 := lay_call d 106 [.int 115, .int 104, .int 111, .int 118, .int 101, .int 108] h23 _ h25 rfl eh25 L23
              refine mX_ckct (m := mcl (mE mtab d 104 [.ref 67, .long x26] h25) 1 74 [some (.ref 67)] []) (k_67 L25) rfl ?_
              refine mk_cIe (o := F_X11_isWord d x26 h25) ?_
              intro x28 h27 eh27
              have L27 : lay h27 := lay_call d 104 [.ref 67, .long x26] h25 _ h27 rfl eh27 L25
              refine mX_br (t := 77) (f := 75) (ls' := [some (.ref 67)]) (st' := []) (h' := h27) rfl ?_ ?_
              · refine mX_to 5 (k' := 82) (ls' := [some (.ref 67)]) (st' := [.int 114, .int 117, .int 111, .int 104, .ref 67]) (h' := h27) rfl ?_
                refine mX_cLe (o := F_X11_w4 d 104 111 117 114 h27) (k' := 83) (ls' := [some (.ref 67)]) (st' := [.ref 67]) rfl ?_
                intro x30 h29 eh29
                have L29 : lay h29 := lay_call d 103 [.int 104, .int 111, .int 117, .int 114] h27 _ h29 rfl eh29 L27
                refine mX_ckct (m := mcl (mE mtab d 104 [.ref 67, .long x30] h29) 1 84 [some (.ref 67)] []) (k_67 L29) rfl ?_
                refine mk_cIe (o := F_X11_isWord d x30 h29) ?_
                intro x32 h31 eh31
                have L31 : lay h31 := lay_call d 104 [.ref 67, .long x30] h29 _ h31 rfl eh31 L29
                refine mX_br (t := 87) (f := 85) (ls' := [some (.ref 67)]) (st' := []) (h' := h31) rfl ?_ ?_
                · refine mX_to 1 (k' := 88) (ls' := [some (.ref 67)]) (st' := [.int (-1)]) (h' := h31) rfl ?_
                  exact mX_reti rfl
                · refine mX_to 2 (k' := 88) (ls' := [some (.ref 67)]) (st' := [.int 7]) (h' := h31) rfl ?_
                  exact mX_reti rfl
              · refine mX_to 2 (k' := 88) (ls' := [some (.ref 67)]) (st' := [.int 6]) (h' := h27) rfl ?_
                exact mX_reti rfl
            · refine mX_to 1 (k' := 64) (ls' := [some (.ref 67)]) (st' := [.int 5]) (h' := h23) rfl ?_
              exact mX_reti rfl
          · refine mX_to 1 (k' := 53) (ls' := [some (.ref 67)]) (st' := [.int 4]) (h' := h19) rfl ?_
            exact mX_reti rfl
        · refine mX_to 1 (k' := 43) (ls' := [some (.ref 67)]) (st' := [.int 3]) (h' := h15) rfl ?_
          exact mX_reti rfl
      · refine mX_to 1 (k' := 33) (ls' := [some (.ref 67)]) (st' := [.int 2]) (h' := h11) rfl ?_
        exact mX_reti rfl
    · refine mX_to 1 (k' := 21) (ls' := [some (.ref 67)]) (st' := [.int 1]) (h' := h7) rfl ?_
      exact mX_reti rfl
  · refine mX_to 1 (k' := 9) (ls' := [some (.ref 67)]) (st' := [.int 0]) (h' := h3) rfl ?_
    exact mX_reti rfl
theorem S_X11_has {h : MH} (L : lay h) (d : Nat) (a0 : Int32) (a1 : Int32) : F_X11_has (d + 1) a0 a1 h = (if ((a0 >>> (a1 &&& 31)) &&& 1) = 1 then some (.int 1, h) else some (.int 0, h)) := by
  refine mE_eq (q := (yX11_has, cX11_has, 2, (some .boolean), KX11_has)) (C := KX11_has) (ls := [some (.int a0), some (.int a1)]) rfl rfl rfl rfl ?_
  refine mX_to 6 (k' := 6) (ls' := [some (.int a0), some (.int a1)]) (st' := [.int 1, .int ((a0 >>> (a1 &&& 31)) &&& 1)]) (h' := h) rfl ?_
  refine mX_br (t := 7) (f := 9) (ls' := [some (.int a0), some (.int a1)]) (st' := []) (h' := h) rfl ?_ ?_
  · refine mX_to 2 (k' := 10) (ls' := [some (.int a0), some (.int a1)]) (st' := [.int 1]) (h' := h) rfl ?_
    exact mX_retb (by decide) rfl
  · refine mX_to 1 (k' := 10) (ls' := [some (.int a0), some (.int a1)]) (st' := [.int 0]) (h' := h) rfl ?_
    exact mX_retb (by decide) rfl
theorem S_X11_figure {h : MH} (L : lay h) (d : Nat) (a1 : Int32) (a2 : Int32) (a3 : Int32) : F_X11_figure (d + 1) a1 a2 a3 h = (if (gI h 67 9) = 1 then cI (F_X11_isIn d (gI h 67 10) a2 a3 h) (fun x2 h1 => (if x2 = 0 then some (.int 2, h1) else ck (ib a1 2724) (lt_ (sI h1 70 (ix a1) (gI h1 67 10)) fun h4 => cV (F_X11_nextToken d h4) (fun h5 => some (.int 0, h5))))) else some (.int 1, h)) := by
  refine mE_eq (q := (yX11_figure, cX11_figure, 4, (some .int), KX11_figure)) (C := KX11_figure) (ls := [some (.ref 67), some (.int a1), some (.int a2), some (.int a3)]) rfl rfl rfl rfl ?_
  refine mX_to 1 (k' := 1) (ls' := [some (.ref 67), some (.int a1), some (.int a2), some (.int a3)]) (st' := [.ref 67]) (h' := h) rfl ?_
  refine mX_ckv (v := .int (gI h 67 9)) (v' := .int (gI h 67 9)) (k' := 2) (ls' := [some (.ref 67), some (.int a1), some (.int a2), some (.int a3)]) (st' := []) (h' := h) (k_67 L) rfl rfl ?_
  refine mX_to 1 (k' := 3) (ls' := [some (.ref 67), some (.int a1), some (.int a2), some (.int a3)]) (st' := [.int 1, .int (gI h 67 9)]) (h' := h) rfl ?_
  refine mX_br (t := 6) (f := 4) (ls' := [some (.ref 67), some (.int a1), some (.int a2), some (.int a3)]) (st' := []) (h' := h) rfl ?_ ?_
  · refine mX_to 1 (k' := 7) (ls' := [some (.ref 67), some (.int a1), some (.int a2), some (.int a3)]) (st' := [.ref 67]) (h' := h) rfl ?_
    refine mX_ckv (v := .int (gI h 67 10)) (v' := .int (gI h 67 10)) (k' := 8) (ls' := [some (.ref 67), some (.int a1), some (.int a2), some (.int a3)]) (st' := []) (h' := h) (k_67 L) rfl rfl ?_
    refine mX_to 2 (k' := 10) (ls' := [some (.ref 67), some (.int a1), some (.int a2), some (.int a3)]) (st' := [.int a3, .int a2, .int (gI h 67 10)]) (h' := h) rfl ?_
    refine mX_cIe (o := F_X11_isIn d (gI h 67 10) a2 a3 h) (k' := 11) (ls' := [some (.ref 67), some (.int a1), some (.int a2), some (.int a3)]) (st' := []) rfl ?_
    intro x2 h1 eh1
    have L1 : lay h1 := lay_call d 14 [.int (gI h 67 10), .int a2, .int a3] h _ h1 rfl eh1 L
    refine mX_br (t := 12) (f := 14) (ls' := [some (.ref 67), some (.int a1), some (.int a2), some (.int a3)]) (st' := []) (h' := h1) rfl ?_ ?_
    · refine mX_to 1 (k' := 13) (ls' := [some (.ref 67), some (.int a1), some (.int a2), some (.int a3)]) (st' := [.int 2]) (h' := h1) rfl ?_
      exact mX_reti rfl
    · refine mX_to 1 (k' := 15) (ls' := [some (.ref 67), some (.int a1), some (.int a2), some (.int a3)]) (st' := [.ref 67]) (h' := h1) rfl ?_
      refine mX_ckv (v := .ref (gR h1 67 2)) (v' := .ref 70) (k' := 16) (ls' := [some (.ref 67), some (.int a1), some (.int a2), some (.int a3)]) (st' := []) (h' := h1) (k_67 L1) (congrArg Value.ref (r_67_2 L1)) rfl ?_
      refine mX_to 2 (k' := 18) (ls' := [some (.ref 67), some (.int a1), some (.int a2), some (.int a3)]) (st' := [.ref 67, .int a1, .ref 70]) (h' := h1) rfl ?_
      refine mX_ckv (v := .int (gI h1 67 10)) (v' := .int (gI h1 67 10)) (k' := 19) (ls' := [some (.ref 67), some (.int a1), some (.int a2), some (.int a3)]) (st' := [.int a1, .ref 70]) (h' := h1) (k_67 L1) rfl rfl ?_
      refine mX_cki (k' := 20) (ls' := [some (.ref 67), some (.int a1), some (.int a2), some (.int a3)]) (st' := []) (h' := (sI h1 70 (ix a1) (gI h1 67 10))) (ckA0 (k_70 L1) (n_70 L1)) rfl fun c3 => ?_
      refine lt_geq2 (X := fun h4 : MH => mX (mE mtab d) KX11_figure 20 [some (.ref 67), some (.int a1), some (.int a2), some (.int a3)] [] h4) (a := (sI h1 70 (ix a1) (gI h1 67 10))) (a' := (sI h1 70 (ix a1) (gI h1 67 10))) rfl fun h4 eh4 => ?_
      have L4 : lay h4 := eh4 ▸ layI L1 (by decide)
      refine mX_to 1 (k' := 21) (ls' := [some (.ref 67), some (.int a1), some (.int a2), some (.int a3)]) (st' := [.ref 67]) (h' := h4) rfl ?_
      refine mX_ckct (m := mcl (mE mtab d 100 [.ref 67] h4) 0 22 [some (.ref 67), some (.int a1), some (.int a2), some (.int a3)] []) (k_67 L4) rfl ?_
      refine mk_cVe (o := F_X11_nextToken d h4) ?_
      intro wh5 h5 eh5
      have L5 : lay h5 := lay_call d 100 [.ref 67] h4 _ h5 rfl eh5 L4
      refine mX_to 1 (k' := 23) (ls' := [some (.ref 67), some (.int a1), some (.int a2), some (.int a3)]) (st' := [.int 0]) (h' := h5) rfl ?_
      exact mX_reti rfl
  · refine mX_to 1 (k' := 5) (ls' := [some (.ref 67), some (.int a1), some (.int a2), some (.int a3)]) (st' := [.int 1]) (h' := h) rfl ?_
    exact mX_reti rfl
theorem S_X11_atPlace {h : MH} (L : lay h) (d : Nat) (a1 : Int32) (a2 : Int32) (a3 : Int32) : F_X11_atPlace (d + 1) a1 a2 a3 h = cI (F_X11_figure d (a1 + 1) a2 a3 h) (fun x2 h1 => (if x2 = 0 then cL (F_X11_w2 d 97 116 h1) (fun x4 h3 => cI (F_X11_isWord d x4 h3) (fun x6 h5 => (if x6 = 0 then some (.int 1, h5) else cV (F_X11_nextToken d h5) (fun h7 => cI (F_X11_figure d (a1 + 2) 0 8 h7) (fun x9 h8 => some (.int x9, h8)))))) else some (.int x2, h1))) := by
  refine mE_eq (q := (yX11_atPlace, cX11_atPlace, 5, (some .int), KX11_atPlace)) (C := KX11_atPlace) (ls := [some (.ref 67), some (.int a1), some (.int a2), some (.int a3), none]) rfl rfl rfl rfl ?_
  refine mX_to 6 (k' := 6) (ls' := [some (.ref 67), some (.int a1), some (.int a2), some (.int a3), none]) (st' := [.int a3, .int a2, .int (a1 + 1), .ref 67]) (h' := h) rfl ?_
  refine mX_ckct (m := mcl (mE mtab d 109 [.ref 67, .int (a1 + 1), .int a2, .int a3] h) 1 7 [some (.ref 67), some (.int a1), some (.int a2), some (.int a3), none] []) (k_67 L) rfl ?_
  refine mk_cIe (o := F_X11_figure d (a1 + 1) a2 a3 h) ?_
  intro x2 h1 eh1
  have L1 : lay h1 := lay_call d 109 [.ref 67, .int (a1 + 1), .int a2, .int a3] h _ h1 rfl eh1 L
  refine mX_to 2 (k' := 9) (ls' := [some (.ref 67), some (.int a1), some (.int a2), some (.int a3), some (.int x2)]) (st' := [.int x2]) (h' := h1) rfl ?_
  refine mX_br (t := 12) (f := 10) (ls' := [some (.ref 67), some (.int a1), some (.int a2), some (.int a3), some (.int x2)]) (st' := []) (h' := h1) rfl ?_ ?_
  · refine mX_to 3 (k' := 15) (ls' := [some (.ref 67), some (.int a1), some (.int a2), some (.int a3), some (.int x2)]) (st' := [.int 116, .int 97, .ref 67]) (h' := h1) rfl ?_
    refine mX_cLe (o := F_X11_w2 d 97 116 h1) (k' := 16) (ls' := [some (.ref 67), some (.int a1), some (.int a2), some (.int a3), some (.int x2)]) (st' := [.ref 67]) rfl ?_
    intro x4 h3 eh3
    have L3 : lay h3 := lay_call d 101 [.int 97, .int 116] h1 _ h3 rfl eh3 L1
    refine mX_ckct (m := mcl (mE mtab d 104 [.ref 67, .long x4] h3) 1 17 [some (.ref 67), some (.int a1), some (.int a2), some (.int a3), some (.int x2)] []) (k_67 L3) rfl ?_
    refine mk_cIe (o := F_X11_isWord d x4 h3) ?_
    intro x6 h5 eh5
    have L5 : lay h5 := lay_call d 104 [.ref 67, .long x4] h3 _ h5 rfl eh5 L3
    refine mX_br (t := 18) (f := 20) (ls' := [some (.ref 67), some (.int a1), some (.int a2), some (.int a3), some (.int x2)]) (st' := []) (h' := h5) rfl ?_ ?_
    · refine mX_to 1 (k' := 19) (ls' := [some (.ref 67), some (.int a1), some (.int a2), some (.int a3), some (.int x2)]) (st' := [.int 1]) (h' := h5) rfl ?_
      exact mX_reti rfl
    · refine mX_to 1 (k' := 21) (ls' := [some (.ref 67), some (.int a1), some (.int a2), some (.int a3), some (.int x2)]) (st' := [.ref 67]) (h' := h5) rfl ?_
      refine mX_ckct (m := mcl (mE mtab d 100 [.ref 67] h5) 0 22 [some (.ref 67), some (.int a1), some (.int a2), some (.int a3), some (.int x2)] []) (k_67 L5) rfl ?_
      refine mk_cVe (o := F_X11_nextToken d h5) ?_
      intro wh7 h7 eh7
      have L7 : lay h7 := lay_call d 100 [.ref 67] h5 _ h7 rfl eh7 L5
      refine mX_to 6 (k' := 28) (ls' := [some (.ref 67), some (.int a1), some (.int a2), some (.int a3), some (.int x2)]) (st' := [.int 8, .int 0, .int (a1 + 2), .ref 67]) (h' := h7) rfl ?_
      refine mX_ckct (m := mcl (mE mtab d 109 [.ref 67, .int (a1 + 2), .int 0, .int 8] h7) 1 29 [some (.ref 67), some (.int a1), some (.int a2), some (.int a3), some (.int x2)] []) (k_67 L7) rfl ?_
      refine mk_cIe (o := F_X11_figure d (a1 + 2) 0 8 h7) ?_
      intro x9 h8 eh8
      have L8 : lay h8 := lay_call d 109 [.ref 67, .int (a1 + 2), .int 0, .int 8] h7 _ h8 rfl eh8 L7
      exact mX_reti rfl
  · refine mX_to 1 (k' := 11) (ls' := [some (.ref 67), some (.int a1), some (.int a2), some (.int a3), some (.int x2)]) (st' := [.int x2]) (h' := h1) rfl ?_
    exact mX_reti rfl
theorem S_X11_openAt_5 {h : MH} (L : lay h) (d : Nat) (l1 : Int32) : G_X11_openAt_5 d l1 h = (if l1 < 0 then some (.int l1, h) else ck (ib l1 160) ((if (gI h 72 (ix l1)) < 40 then G_X11_openAt_5 d (l1 + (-1)) h else some (.int l1, h)))) := by
  refine mX_to 1 (k' := 6) (ls' := [some (.ref 67), some (.int l1)]) (st' := [.int l1]) (h' := h) rfl ?_
  refine mX_br (t := 15) (f := 7) (ls' := [some (.ref 67), some (.int l1)]) (st' := []) (h' := h) rfl ?_ ?_
  · refine mX_to 1 (k' := 16) (ls' := [some (.ref 67), some (.int l1)]) (st' := [.int l1]) (h' := h) rfl ?_
    exact mX_reti rfl
  · refine mX_to 1 (k' := 8) (ls' := [some (.ref 67), some (.int l1)]) (st' := [.ref 67]) (h' := h) rfl ?_
    refine mX_ckv (v := .ref (gR h 67 15)) (v' := .ref 72) (k' := 9) (ls' := [some (.ref 67), some (.int l1)]) (st' := []) (h' := h) (k_67 L) (congrArg Value.ref (r_67_15 L)) rfl ?_
    refine mX_to 1 (k' := 10) (ls' := [some (.ref 67), some (.int l1)]) (st' := [.int l1, .ref 72]) (h' := h) rfl ?_
    refine mX_ckw (v := .int (gI h 72 (ix l1))) (v' := .int (gI h 72 (ix l1))) (k' := 11) (ls' := [some (.ref 67), some (.int l1)]) (st' := []) (h' := h) (ckA1 (k_72 L) (n_72 L)) rfl rfl fun c2 => ?_
    refine mX_to 1 (k' := 12) (ls' := [some (.ref 67), some (.int l1)]) (st' := [.int 40, .int (gI h 72 (ix l1))]) (h' := h) rfl ?_
    refine mX_br (t := 13) (f := 15) (ls' := [some (.ref 67), some (.int l1)]) (st' := []) (h' := h) rfl ?_ ?_
    · refine mX_to 2 (k' := 5) (ls' := [some (.ref 67), some (.int (l1 + (-1)))]) (st' := []) (h' := h) rfl ?_
      rfl
    · refine mX_to 1 (k' := 16) (ls' := [some (.ref 67), some (.int l1)]) (st' := [.int l1]) (h' := h) rfl ?_
      exact mX_reti rfl
theorem S_X11_openAt {h : MH} (L : lay h) (d : Nat) : F_X11_openAt (d + 1) h = lt_ ((gI h 67 16) - 1) fun v1 => G_X11_openAt_5 d v1 h := by
  refine mE_eq (q := (yX11_openAt, cX11_openAt, 2, (some .int), KX11_openAt)) (C := KX11_openAt) (ls := [some (.ref 67), none]) rfl rfl rfl rfl ?_
  refine mX_to 1 (k' := 1) (ls' := [some (.ref 67), none]) (st' := [.ref 67]) (h' := h) rfl ?_
  refine mX_ckv (v := .int (gI h 67 16)) (v' := .int (gI h 67 16)) (k' := 2) (ls' := [some (.ref 67), none]) (st' := []) (h' := h) (k_67 L) rfl rfl ?_
  refine mX_to 2 (k' := 4) (ls' := [some (.ref 67), none]) (st' := [.int ((gI h 67 16) - 1)]) (h' := h) rfl ?_
  refine lt_gen (X := fun v1 : Int32 => mX (mE mtab d) KX11_openAt 4 [some (.ref 67), none] [.int v1] h) fun v1 => ?_
  refine mX_to 1 (k' := 5) (ls' := [some (.ref 67), some (.int v1)]) (st' := []) (h' := h) rfl ?_
  rfl
theorem S_X11_openNow {h : MH} (L : lay h) (d : Nat) : F_X11_openNow (d + 1) h = cI (F_X11_openAt d h) (fun x2 h1 => (if x2 < 0 then some (.int (-1), h1) else cI (F_X11_openAt d h1) (fun x4 h3 => ck (ib x4 160) (some (.int (gI h3 72 (ix x4)), h3))))) := by
  refine mE_eq (q := (yX11_openNow, cX11_openNow, 1, (some .int), KX11_openNow)) (C := KX11_openNow) (ls := [some (.ref 67)]) rfl rfl rfl rfl ?_
  refine mX_to 1 (k' := 1) (ls' := [some (.ref 67)]) (st' := [.ref 67]) (h' := h) rfl ?_
  refine mX_ckct (m := mcl (mE mtab d 111 [.ref 67] h) 1 2 [some (.ref 67)] []) (k_67 L) rfl ?_
  refine mk_cIe (o := F_X11_openAt d h) ?_
  intro x2 h1 eh1
  have L1 : lay h1 := lay_call d 111 [.ref 67] h _ h1 rfl eh1 L
  refine mX_br (t := 3) (f := 5) (ls' := [some (.ref 67)]) (st' := []) (h' := h1) rfl ?_ ?_
  · refine mX_to 2 (k' := 10) (ls' := [some (.ref 67)]) (st' := [.int (-1)]) (h' := h1) rfl ?_
    exact mX_reti rfl
  · refine mX_to 1 (k' := 6) (ls' := [some (.ref 67)]) (st' := [.ref 67]) (h' := h1) rfl ?_
    refine mX_ckv (v := .ref (gR h1 67 15)) (v' := .ref 72) (k' := 7) (ls' := [some (.ref 67)]) (st' := []) (h' := h1) (k_67 L1) (congrArg Value.ref (r_67_15 L1)) rfl ?_
    refine mX_to 1 (k' := 8) (ls' := [some (.ref 67)]) (st' := [.ref 67, .ref 72]) (h' := h1) rfl ?_
    refine mX_ckct (m := mcl (mE mtab d 111 [.ref 67] h1) 1 9 [some (.ref 67)] [.ref 72]) (k_67 L1) rfl ?_
    refine mk_cIe (o := F_X11_openAt d h1) ?_
    intro x4 h3 eh3
    have L3 : lay h3 := lay_call d 111 [.ref 67] h1 _ h3 rfl eh3 L1
    refine mX_ckw (v := .int (gI h3 72 (ix x4))) (v' := .int (gI h3 72 (ix x4))) (k' := 10) (ls' := [some (.ref 67)]) (st' := []) (h' := h3) (ckA1 (k_72 L3) (n_72 L3)) rfl rfl fun c5 => ?_
    exact mX_reti rfl
theorem S_X11_rank {h : MH} (L : lay h) (d : Nat) (a0 : Int32) : F_X11_rank (d + 1) a0 h = (if a0 < 40 then (if a0 = 22 then some (.int 1, h) else (if a0 = 21 then some (.int 2, h) else (if a0 = 20 then some (.int 3, h) else (if a0 < 10 then (if a0 < 8 then (if a0 < 6 then some (.int 7, h) else some (.int 5, h)) else some (.int 6, h)) else some (.int 4, h))))) else some (.int 0, h)) := by
  refine mE_eq (q := (yX11_rank, cX11_rank, 1, (some .int), KX11_rank)) (C := KX11_rank) (ls := [some (.int a0)]) rfl rfl rfl rfl ?_
  refine mX_to 2 (k' := 2) (ls' := [some (.int a0)]) (st' := [.int 40, .int a0]) (h' := h) rfl ?_
  refine mX_br (t := 5) (f := 3) (ls' := [some (.int a0)]) (st' := []) (h' := h) rfl ?_ ?_
  · refine mX_to 2 (k' := 7) (ls' := [some (.int a0)]) (st' := [.int 22, .int a0]) (h' := h) rfl ?_
    refine mX_br (t := 8) (f := 10) (ls' := [some (.int a0)]) (st' := []) (h' := h) rfl ?_ ?_
    · refine mX_to 2 (k' := 36) (ls' := [some (.int a0)]) (st' := [.int 1]) (h' := h) rfl ?_
      exact mX_reti rfl
    · refine mX_to 2 (k' := 12) (ls' := [some (.int a0)]) (st' := [.int 21, .int a0]) (h' := h) rfl ?_
      refine mX_br (t := 13) (f := 15) (ls' := [some (.int a0)]) (st' := []) (h' := h) rfl ?_ ?_
      · refine mX_to 2 (k' := 36) (ls' := [some (.int a0)]) (st' := [.int 2]) (h' := h) rfl ?_
        exact mX_reti rfl
      · refine mX_to 2 (k' := 17) (ls' := [some (.int a0)]) (st' := [.int 20, .int a0]) (h' := h) rfl ?_
        refine mX_br (t := 18) (f := 20) (ls' := [some (.int a0)]) (st' := []) (h' := h) rfl ?_ ?_
        · refine mX_to 2 (k' := 36) (ls' := [some (.int a0)]) (st' := [.int 3]) (h' := h) rfl ?_
          exact mX_reti rfl
        · refine mX_to 2 (k' := 22) (ls' := [some (.int a0)]) (st' := [.int 10, .int a0]) (h' := h) rfl ?_
          refine mX_br (t := 25) (f := 23) (ls' := [some (.int a0)]) (st' := []) (h' := h) rfl ?_ ?_
          · refine mX_to 2 (k' := 27) (ls' := [some (.int a0)]) (st' := [.int 8, .int a0]) (h' := h) rfl ?_
            refine mX_br (t := 30) (f := 28) (ls' := [some (.int a0)]) (st' := []) (h' := h) rfl ?_ ?_
            · refine mX_to 2 (k' := 32) (ls' := [some (.int a0)]) (st' := [.int 6, .int a0]) (h' := h) rfl ?_
              refine mX_br (t := 35) (f := 33) (ls' := [some (.int a0)]) (st' := []) (h' := h) rfl ?_ ?_
              · refine mX_to 1 (k' := 36) (ls' := [some (.int a0)]) (st' := [.int 7]) (h' := h) rfl ?_
                exact mX_reti rfl
              · refine mX_to 2 (k' := 36) (ls' := [some (.int a0)]) (st' := [.int 5]) (h' := h) rfl ?_
                exact mX_reti rfl
            · refine mX_to 2 (k' := 36) (ls' := [some (.int a0)]) (st' := [.int 6]) (h' := h) rfl ?_
              exact mX_reti rfl
          · refine mX_to 2 (k' := 36) (ls' := [some (.int a0)]) (st' := [.int 4]) (h' := h) rfl ?_
            exact mX_reti rfl
  · refine mX_to 2 (k' := 36) (ls' := [some (.int a0)]) (st' := [.int 0]) (h' := h) rfl ?_
    exact mX_reti rfl
theorem S_X11_isCompared_5 {h : MH} (L : lay h) (d : Nat) (l1 : Int32) : G_X11_isCompared_5 d l1 h = (if l1 < 0 then G_X11_isCompared_16 d l1 h else ck (ib l1 160) (cI (F_X11_rank d (gI h 72 (ix l1)) h) (fun x3 h2 => (if x3 ≤ 4 then G_X11_isCompared_16 d l1 h2 else G_X11_isCompared_5 d (l1 + (-1)) h2)))) := by
  refine mX_to 1 (k' := 6) (ls' := [some (.ref 67), some (.int l1)]) (st' := [.int l1]) (h' := h) rfl ?_
  refine mX_br (t := 16) (f := 7) (ls' := [some (.ref 67), some (.int l1)]) (st' := []) (h' := h) rfl ?_ ?_
  · rfl
  · refine mX_to 1 (k' := 8) (ls' := [some (.ref 67), some (.int l1)]) (st' := [.ref 67]) (h' := h) rfl ?_
    refine mX_ckv (v := .ref (gR h 67 15)) (v' := .ref 72) (k' := 9) (ls' := [some (.ref 67), some (.int l1)]) (st' := []) (h' := h) (k_67 L) (congrArg Value.ref (r_67_15 L)) rfl ?_
    refine mX_to 1 (k' := 10) (ls' := [some (.ref 67), some (.int l1)]) (st' := [.int l1, .ref 72]) (h' := h) rfl ?_
    refine mX_ckw (v := .int (gI h 72 (ix l1))) (v' := .int (gI h 72 (ix l1))) (k' := 11) (ls' := [some (.ref 67), some (.int l1)]) (st' := []) (h' := h) (ckA1 (k_72 L) (n_72 L)) rfl rfl fun c4 => ?_
    refine mX_cIe (o := F_X11_rank d (gI h 72 (ix l1)) h) (k' := 12) (ls' := [some (.ref 67), some (.int l1)]) (st' := []) rfl ?_
    intro x3 h2 eh2
    have L2 : lay h2 := lay_call d 113 [.int (gI h 72 (ix l1))] h _ h2 rfl eh2 L
    refine mX_to 1 (k' := 13) (ls' := [some (.ref 67), some (.int l1)]) (st' := [.int 4, .int x3]) (h' := h2) rfl ?_
    refine mX_br (t := 16) (f := 14) (ls' := [some (.ref 67), some (.int l1)]) (st' := []) (h' := h2) rfl ?_ ?_
    · rfl
    · refine mX_to 2 (k' := 5) (ls' := [some (.ref 67), some (.int (l1 + (-1)))]) (st' := []) (h' := h2) rfl ?_
      rfl
theorem S_X11_isCompared_16 {h : MH} (L : lay h) (d : Nat) (l1 : Int32) : G_X11_isCompared_16 d l1 h = (if l1 < 0 then some (.int 0, h) else ck (ib l1 160) (cI (F_X11_rank d (gI h 72 (ix l1)) h) (fun x6 h5 => (if x6 = 4 then some (.int 1, h5) else some (.int 0, h5))))) := by
  refine mX_to 1 (k' := 17) (ls' := [some (.ref 67), some (.int l1)]) (st' := [.int l1]) (h' := h) rfl ?_
  refine mX_br (t := 27) (f := 18) (ls' := [some (.ref 67), some (.int l1)]) (st' := []) (h' := h) rfl ?_ ?_
  · refine mX_to 1 (k' := 28) (ls' := [some (.ref 67), some (.int l1)]) (st' := [.int 0]) (h' := h) rfl ?_
    exact mX_retb (by decide) rfl
  · refine mX_to 1 (k' := 19) (ls' := [some (.ref 67), some (.int l1)]) (st' := [.ref 67]) (h' := h) rfl ?_
    refine mX_ckv (v := .ref (gR h 67 15)) (v' := .ref 72) (k' := 20) (ls' := [some (.ref 67), some (.int l1)]) (st' := []) (h' := h) (k_67 L) (congrArg Value.ref (r_67_15 L)) rfl ?_
    refine mX_to 1 (k' := 21) (ls' := [some (.ref 67), some (.int l1)]) (st' := [.int l1, .ref 72]) (h' := h) rfl ?_
    refine mX_ckw (v := .int (gI h 72 (ix l1))) (v' := .int (gI h 72 (ix l1))) (k' := 22) (ls' := [some (.ref 67), some (.int l1)]) (st' := []) (h' := h) (ckA1 (k_72 L) (n_72 L)) rfl rfl fun c7 => ?_
    refine mX_cIe (o := F_X11_rank d (gI h 72 (ix l1)) h) (k' := 23) (ls' := [some (.ref 67), some (.int l1)]) (st' := []) rfl ?_
    intro x6 h5 eh5
    have L5 : lay h5 := lay_call d 113 [.int (gI h 72 (ix l1))] h _ h5 rfl eh5 L
    refine mX_to 1 (k' := 24) (ls' := [some (.ref 67), some (.int l1)]) (st' := [.int 4, .int x6]) (h' := h5) rfl ?_
    refine mX_br (t := 25) (f := 27) (ls' := [some (.ref 67), some (.int l1)]) (st' := []) (h' := h5) rfl ?_ ?_
    · refine mX_to 2 (k' := 28) (ls' := [some (.ref 67), some (.int l1)]) (st' := [.int 1]) (h' := h5) rfl ?_
      exact mX_retb (by decide) rfl
    · refine mX_to 1 (k' := 28) (ls' := [some (.ref 67), some (.int l1)]) (st' := [.int 0]) (h' := h5) rfl ?_
      exact mX_retb (by decide) rfl
theorem S_X11_isCompared {h : MH} (L : lay h) (d : Nat) : F_X11_isCompared (d + 1) h = lt_ ((gI h 67 16) - 1) fun v1 => G_X11_isCompared_5 d v1 h := by
  refine mE_eq (q := (yX11_isCompared, cX11_isCompared, 2, (some .boolean), KX11_isCompared)) (C := KX11_isCompared) (ls := [some (.ref 67), none]) rfl rfl rfl rfl ?_
  refine mX_to 1 (k' := 1) (ls' := [some (.ref 67), none]) (st' := [.ref 67]) (h' := h) rfl ?_
  refine mX_ckv (v := .int (gI h 67 16)) (v' := .int (gI h 67 16)) (k' := 2) (ls' := [some (.ref 67), none]) (st' := []) (h' := h) (k_67 L) rfl rfl ?_
  refine mX_to 2 (k' := 4) (ls' := [some (.ref 67), none]) (st' := [.int ((gI h 67 16) - 1)]) (h' := h) rfl ?_
  refine lt_gen (X := fun v1 : Int32 => mX (mE mtab d) KX11_isCompared 4 [some (.ref 67), none] [.int v1] h) fun v1 => ?_
  refine mX_to 1 (k' := 5) (ls' := [some (.ref 67), some (.int v1)]) (st' := []) (h' := h) rfl ?_
  rfl
theorem S_X11_compareOf {h : MH} (L : lay h) (d : Nat) : F_X11_compareOf (d + 1) h = (if (gI h 67 9) = 60 then some (.int 10, h) else (if (gI h 67 9) = 4 then some (.int 11, h) else (if (gI h 67 9) = 62 then some (.int 12, h) else (if (gI h 67 9) = 5 then some (.int 13, h) else (if (gI h 67 9) = 61 then some (.int 14, h) else (if (gI h 67 9) = 35 then some (.int 15, h) else some (.int (-1), h))))))) := by
  refine mE_eq (q := (yX11_compareOf, cX11_compareOf, 1, (some .int), KX11_compareOf)) (C := KX11_compareOf) (ls := [some (.ref 67)]) rfl rfl rfl rfl ?_
  refine mX_to 1 (k' := 1) (ls' := [some (.ref 67)]) (st' := [.ref 67]) (h' := h) rfl ?_
  refine mX_ckv (v := .int (gI h 67 9)) (v' := .int (gI h 67 9)) (k' := 2) (ls' := [some (.ref 67)]) (st' := []) (h' := h) (k_67 L) rfl rfl ?_
  refine mX_to 1 (k' := 3) (ls' := [some (.ref 67)]) (st' := [.int 60, .int (gI h 67 9)]) (h' := h) rfl ?_
  refine mX_br (t := 4) (f := 6) (ls' := [some (.ref 67)]) (st' := []) (h' := h) rfl ?_ ?_
  · refine mX_to 2 (k' := 37) (ls' := [some (.ref 67)]) (st' := [.int 10]) (h' := h) rfl ?_
    exact mX_reti rfl
  · refine mX_to 1 (k' := 7) (ls' := [some (.ref 67)]) (st' := [.ref 67]) (h' := h) rfl ?_
    refine mX_ckv (v := .int (gI h 67 9)) (v' := .int (gI h 67 9)) (k' := 8) (ls' := [some (.ref 67)]) (st' := []) (h' := h) (k_67 L) rfl rfl ?_
    refine mX_to 1 (k' := 9) (ls' := [some (.ref 67)]) (st' := [.int 4, .int (gI h 67 9)]) (h' := h) rfl ?_
    refine mX_br (t := 10) (f := 12) (ls' := [some (.ref 67)]) (st' := []) (h' := h) rfl ?_ ?_
    · refine mX_to 2 (k' := 37) (ls' := [some (.ref 67)]) (st' := [.int 11]) (h' := h) rfl ?_
      exact mX_reti rfl
    · refine mX_to 1 (k' := 13) (ls' := [some (.ref 67)]) (st' := [.ref 67]) (h' := h) rfl ?_
      refine mX_ckv (v := .int (gI h 67 9)) (v' := .int (gI h 67 9)) (k' := 14) (ls' := [some (.ref 67)]) (st' := []) (h' := h) (k_67 L) rfl rfl ?_
      refine mX_to 1 (k' := 15) (ls' := [some (.ref 67)]) (st' := [.int 62, .int (gI h 67 9)]) (h' := h) rfl ?_
      refine mX_br (t := 16) (f := 18) (ls' := [some (.ref 67)]) (st' := []) (h' := h) rfl ?_ ?_
      · refine mX_to 2 (k' := 37) (ls' := [some (.ref 67)]) (st' := [.int 12]) (h' := h) rfl ?_
        exact mX_reti rfl
      · refine mX_to 1 (k' := 19) (ls' := [some (.ref 67)]) (st' := [.ref 67]) (h' := h) rfl ?_
        refine mX_ckv (v := .int (gI h 67 9)) (v' := .int (gI h 67 9)) (k' := 20) (ls' := [some (.ref 67)]) (st' := []) (h' := h) (k_67 L) rfl rfl ?_
        refine mX_to 1 (k' := 21) (ls' := [some (.ref 67)]) (st' := [.int 5, .int (gI h 67 9)]) (h' := h) rfl ?_
        refine mX_br (t := 22) (f := 24) (ls' := [some (.ref 67)]) (st' := []) (h' := h) rfl ?_ ?_
        · refine mX_to 2 (k' := 37) (ls' := [some (.ref 67)]) (st' := [.int 13]) (h' := h) rfl ?_
          exact mX_reti rfl
        · refine mX_to 1 (k' := 25) (ls' := [some (.ref 67)]) (st' := [.ref 67]) (h' := h) rfl ?_
          refine mX_ckv (v := .int (gI h 67 9)) (v' := .int (gI h 67 9)) (k' := 26) (ls' := [some (.ref 67)]) (st' := []) (h' := h) (k_67 L) rfl rfl ?_
          refine mX_to 1 (k' := 27) (ls' := [some (.ref 67)]) (st' := [.int 61, .int (gI h 67 9)]) (h' := h) rfl ?_
          refine mX_br (t := 28) (f := 30) (ls' := [some (.ref 67)]) (st' := []) (h' := h) rfl ?_ ?_
          · refine mX_to 2 (k' := 37) (ls' := [some (.ref 67)]) (st' := [.int 14]) (h' := h) rfl ?_
            exact mX_reti rfl
          · refine mX_to 1 (k' := 31) (ls' := [some (.ref 67)]) (st' := [.ref 67]) (h' := h) rfl ?_
            refine mX_ckv (v := .int (gI h 67 9)) (v' := .int (gI h 67 9)) (k' := 32) (ls' := [some (.ref 67)]) (st' := []) (h' := h) (k_67 L) rfl rfl ?_
            refine mX_to 1 (k' := 33) (ls' := [some (.ref 67)]) (st' := [.int 35, .int (gI h 67 9)]) (h' := h) rfl ?_
            refine mX_br (t := 34) (f := 36) (ls' := [some (.ref 67)]) (st' := []) (h' := h) rfl ?_ ?_
            · refine mX_to 2 (k' := 37) (ls' := [some (.ref 67)]) (st' := [.int 15]) (h' := h) rfl ?_
              exact mX_reti rfl
            · refine mX_to 1 (k' := 37) (ls' := [some (.ref 67)]) (st' := [.int (-1)]) (h' := h) rfl ?_
              exact mX_reti rfl
theorem S_X11_betweenOf {h : MH} (L : lay h) (d : Nat) : F_X11_betweenOf (d + 1) h = (if (gI h 67 9) = 43 then some (.int 6, h) else (if (gI h 67 9) = 45 then some (.int 7, h) else (if (gI h 67 9) = 42 then some (.int 8, h) else (if (gI h 67 9) = 47 then some (.int 9, h) else cI (F_X11_openNow d h) (fun x2 h1 => (if x2 = 41 then cI (F_X11_isCompared d h1) (fun x4 h3 => (if x4 = 0 then cI (F_X11_compareOf d h3) (fun x6 h5 => some (.int x6, h5)) else cL (F_X11_w3 d 97 110 100 h3) (fun x8 h7 => cI (F_X11_isWord d x8 h7) (fun x10 h9 => (if x10 = 0 then cL (F_X11_w2 d 111 114 h9) (fun x12 h11 => cI (F_X11_isWord d x12 h11) (fun x14 h13 => (if x14 = 0 then some (.int (-1), h13) else some (.int 22, h13)))) else some (.int 21, h9)))))) else some (.int (-1), h1))))))) := by
  refine mE_eq (q := (yX11_betweenOf, cX11_betweenOf, 1, (some .int), KX11_betweenOf)) (C := KX11_betweenOf) (ls := [some (.ref 67)]) rfl rfl rfl rfl ?_
  refine mX_to 1 (k' := 1) (ls' := [some (.ref 67)]) (st' := [.ref 67]) (h' := h) rfl ?_
  refine mX_ckv (v := .int (gI h 67 9)) (v' := .int (gI h 67 9)) (k' := 2) (ls' := [some (.ref 67)]) (st' := []) (h' := h) (k_67 L) rfl rfl ?_
  refine mX_to 1 (k' := 3) (ls' := [some (.ref 67)]) (st' := [.int 43, .int (gI h 67 9)]) (h' := h) rfl ?_
  refine mX_br (t := 4) (f := 6) (ls' := [some (.ref 67)]) (st' := []) (h' := h) rfl ?_ ?_
  · refine mX_to 1 (k' := 5) (ls' := [some (.ref 67)]) (st' := [.int 6]) (h' := h) rfl ?_
    exact mX_reti rfl
  · refine mX_to 1 (k' := 7) (ls' := [some (.ref 67)]) (st' := [.ref 67]) (h' := h) rfl ?_
    refine mX_ckv (v := .int (gI h 67 9)) (v' := .int (gI h 67 9)) (k' := 8) (ls' := [some (.ref 67)]) (st' := []) (h' := h) (k_67 L) rfl rfl ?_
    refine mX_to 1 (k' := 9) (ls' := [some (.ref 67)]) (st' := [.int 45, .int (gI h 67 9)]) (h' := h) rfl ?_
    refine mX_br (t := 10) (f := 12) (ls' := [some (.ref 67)]) (st' := []) (h' := h) rfl ?_ ?_
    · refine mX_to 1 (k' := 11) (ls' := [some (.ref 67)]) (st' := [.int 7]) (h' := h) rfl ?_
      exact mX_reti rfl
    · refine mX_to 1 (k' := 13) (ls' := [some (.ref 67)]) (st' := [.ref 67]) (h' := h) rfl ?_
      refine mX_ckv (v := .int (gI h 67 9)) (v' := .int (gI h 67 9)) (k' := 14) (ls' := [some (.ref 67)]) (st' := []) (h' := h) (k_67 L) rfl rfl ?_
      refine mX_to 1 (k' := 15) (ls' := [some (.ref 67)]) (st' := [.int 42, .int (gI h 67 9)]) (h' := h) rfl ?_
      refine mX_br (t := 16) (f := 18) (ls' := [some (.ref 67)]) (st' := []) (h' := h) rfl ?_ ?_
      · refine mX_to 1 (k' := 17) (ls' := [some (.ref 67)]) (st' := [.int 8]) (h' := h) rfl ?_
        exact mX_reti rfl
      · refine mX_to 1 (k' := 19) (ls' := [some (.ref 67)]) (st' := [.ref 67]) (h' := h) rfl ?_
        refine mX_ckv (v := .int (gI h 67 9)) (v' := .int (gI h 67 9)) (k' := 20) (ls' := [some (.ref 67)]) (st' := []) (h' := h) (k_67 L) rfl rfl ?_
        refine mX_to 1 (k' := 21) (ls' := [some (.ref 67)]) (st' := [.int 47, .int (gI h 67 9)]) (h' := h) rfl ?_
        refine mX_br (t := 22) (f := 24) (ls' := [some (.ref 67)]) (st' := []) (h' := h) rfl ?_ ?_
        · refine mX_to 1 (k' := 23) (ls' := [some (.ref 67)]) (st' := [.int 9]) (h' := h) rfl ?_
          exact mX_reti rfl
        · refine mX_to 1 (k' := 25) (ls' := [some (.ref 67)]) (st' := [.ref 67]) (h' := h) rfl ?_
          refine mX_ckct (m := mcl (mE mtab d 112 [.ref 67] h) 1 26 [some (.ref 67)] []) (k_67 L) rfl ?_
          refine mk_cIe (o := F_X11_openNow d h) ?_
          intro x2 h1 eh1
          have L1 : lay h1 := lay_call d 112 [.ref 67] h _ h1 rfl eh1 L
          refine mX_to 1 (k' := 27) (ls' := [some (.ref 67)]) (st' := [.int 41, .int x2]) (h' := h1) rfl ?_
          refine mX_br (t := 30) (f := 28) (ls' := [some (.ref 67)]) (st' := []) (h' := h1) rfl ?_ ?_
          · refine mX_to 1 (k' := 31) (ls' := [some (.ref 67)]) (st' := [.ref 67]) (h' := h1) rfl ?_
            refine mX_ckct (m := mcl (mE mtab d 114 [.ref 67] h1) 1 32 [some (.ref 67)] []) (k_67 L1) rfl ?_
            refine mk_cIe (o := F_X11_isCompared d h1) ?_
            intro x4 h3 eh3
            have L3 : lay h3 := lay_call d 114 [.ref 67] h1 _ h3 rfl eh3 L1
            refine mX_br (t := 33) (f := 36) (ls' := [some (.ref 67)]) (st' := []) (h' := h3) rfl ?_ ?_
            · refine mX_to 1 (k' := 34) (ls' := [some (.ref 67)]) (st' := [.ref 67]) (h' := h3) rfl ?_
              refine mX_ckct (m := mcl (mE mtab d 115 [.ref 67] h3) 1 35 [some (.ref 67)] []) (k_67 L3) rfl ?_
              refine mk_cIe (o := F_X11_compareOf d h3) ?_
              intro x6 h5 eh5
              have L5 : lay h5 := lay_call d 115 [.ref 67] h3 _ h5 rfl eh5 L3
              exact mX_reti rfl
            · refine mX_to 4 (k' := 40) (ls' := [some (.ref 67)]) (st' := [.int 100, .int 110, .int 97, .ref 67]) (h' := h3) rfl ?_
              refine mX_cLe (o := F_X11_w3 d 97 110 100 h3) (k' := 41) (ls' := [some (.ref 67)]) (st' := [.ref 67]) rfl ?_
              intro x8 h7 eh7
              have L7 : lay h7 := lay_call d 102 [.int 97, .int 110, .int 100] h3 _ h7 rfl eh7 L3
              refine mX_ckct (m := mcl (mE mtab d 104 [.ref 67, .long x8] h7) 1 42 [some (.ref 67)] []) (k_67 L7) rfl ?_
              refine mk_cIe (o := F_X11_isWord d x8 h7) ?_
              intro x10 h9 eh9
              have L9 : lay h9 := lay_call d 104 [.ref 67, .long x8] h7 _ h9 rfl eh9 L7
              refine mX_br (t := 45) (f := 43) (ls' := [some (.ref 67)]) (st' := []) (h' := h9) rfl ?_ ?_
              · refine mX_to 3 (k' := 48) (ls' := [some (.ref 67)]) (st' := [.int 114, .int 111, .ref 67]) (h' := h9) rfl ?_
                refine mX_cLe (o := F_X11_w2 d 111 114 h9) (k' := 49) (ls' := [some (.ref 67)]) (st' := [.ref 67]) rfl ?_
                intro x12 h11 eh11
                have L11 : lay h11 := lay_call d 101 [.int 111, .int 114] h9 _ h11 rfl eh11 L9
                refine mX_ckct (m := mcl (mE mtab d 104 [.ref 67, .long x12] h11) 1 50 [some (.ref 67)] []) (k_67 L11) rfl ?_
                refine mk_cIe (o := F_X11_isWord d x12 h11) ?_
                intro x14 h13 eh13
                have L13 : lay h13 := lay_call d 104 [.ref 67, .long x12] h11 _ h13 rfl eh13 L11
                refine mX_br (t := 53) (f := 51) (ls' := [some (.ref 67)]) (st' := []) (h' := h13) rfl ?_ ?_
                · refine mX_to 1 (k' := 54) (ls' := [some (.ref 67)]) (st' := [.int (-1)]) (h' := h13) rfl ?_
                  exact mX_reti rfl
                · refine mX_to 2 (k' := 54) (ls' := [some (.ref 67)]) (st' := [.int 22]) (h' := h13) rfl ?_
                  exact mX_reti rfl
              · refine mX_to 2 (k' := 54) (ls' := [some (.ref 67)]) (st' := [.int 21]) (h' := h9) rfl ?_
                exact mX_reti rfl
          · refine mX_to 1 (k' := 29) (ls' := [some (.ref 67)]) (st' := [.int (-1)]) (h' := h1) rfl ?_
            exact mX_reti rfl
theorem S_X11_emit {h : MH} (L : lay h) (d : Nat) (a1 : Int32) (a2 : Int32) : F_X11_emit (d + 1) a1 a2 h = ck (ib (((gI h 67 12) + 73) + (2 * (gI h 67 13))) 2724) (lt_ (sI h 70 (ix (((gI h 67 12) + 73) + (2 * (gI h 67 13)))) a1) fun h2 => ck (ib ((((gI h2 67 12) + 73) + (2 * (gI h2 67 13))) + 1) 2724) (lt_ (sI h2 70 (ix ((((gI h2 67 12) + 73) + (2 * (gI h2 67 13))) + 1)) a2) fun h4 => lt_ (sI h4 67 13 ((gI h4 67 13) + 1)) fun h6 => some (.int 0, h6))) := by
  refine mE_eq (q := (yX11_emit, cX11_emit, 3, none, KX11_emit)) (C := KX11_emit) (ls := [some (.ref 67), some (.int a1), some (.int a2)]) rfl rfl rfl rfl ?_
  refine mX_to 1 (k' := 1) (ls' := [some (.ref 67), some (.int a1), some (.int a2)]) (st' := [.ref 67]) (h' := h) rfl ?_
  refine mX_ckv (v := .ref (gR h 67 2)) (v' := .ref 70) (k' := 2) (ls' := [some (.ref 67), some (.int a1), some (.int a2)]) (st' := []) (h' := h) (k_67 L) (congrArg Value.ref (r_67_2 L)) rfl ?_
  refine mX_to 1 (k' := 3) (ls' := [some (.ref 67), some (.int a1), some (.int a2)]) (st' := [.ref 67, .ref 70]) (h' := h) rfl ?_
  refine mX_ckv (v := .int (gI h 67 12)) (v' := .int (gI h 67 12)) (k' := 4) (ls' := [some (.ref 67), some (.int a1), some (.int a2)]) (st' := [.ref 70]) (h' := h) (k_67 L) rfl rfl ?_
  refine mX_to 4 (k' := 8) (ls' := [some (.ref 67), some (.int a1), some (.int a2)]) (st' := [.ref 67, .int 2, .int ((gI h 67 12) + 73), .ref 70]) (h' := h) rfl ?_
  refine mX_ckv (v := .int (gI h 67 13)) (v' := .int (gI h 67 13)) (k' := 9) (ls' := [some (.ref 67), some (.int a1), some (.int a2)]) (st' := [.int 2, .int ((gI h 67 12) + 73), .ref 70]) (h' := h) (k_67 L) rfl rfl ?_
  refine mX_to 3 (k' := 12) (ls' := [some (.ref 67), some (.int a1), some (.int a2)]) (st' := [.int a1, .int (((gI h 67 12) + 73) + (2 * (gI h 67 13))), .ref 70]) (h' := h) rfl ?_
  refine mX_cki (k' := 13) (ls' := [some (.ref 67), some (.int a1), some (.int a2)]) (st' := []) (h' := (sI h 70 (ix (((gI h 67 12) + 73) + (2 * (gI h 67 13)))) a1)) (ckA0 (k_70 L) (n_70 L)) rfl fun c1 => ?_
  refine lt_geq2 (X := fun h2 : MH => mX (mE mtab d) KX11_emit 13 [some (.ref 67), some (.int a1), some (.int a2)] [] h2) (a := (sI h 70 (ix (((gI h 67 12) + 73) + (2 * (gI h 67 13)))) a1)) (a' := (sI h 70 (ix (((gI h 67 12) + 73) + (2 * (gI h 67 13)))) a1)) rfl fun h2 eh2 => ?_
  have L2 : lay h2 := eh2 ▸ layI L (by decide)
  refine mX_to 1 (k' := 14) (ls' := [some (.ref 67), some (.int a1), some (.int a2)]) (st' := [.ref 67]) (h' := h2) rfl ?_
  refine mX_ckv (v := .ref (gR h2 67 2)) (v' := .ref 70) (k' := 15) (ls' := [some (.ref 67), some (.int a1), some (.int a2)]) (st' := []) (h' := h2) (k_67 L2) (congrArg Value.ref (r_67_2 L2)) rfl ?_
  refine mX_to 1 (k' := 16) (ls' := [some (.ref 67), some (.int a1), some (.int a2)]) (st' := [.ref 67, .ref 70]) (h' := h2) rfl ?_
  refine mX_ckv (v := .int (gI h2 67 12)) (v' := .int (gI h2 67 12)) (k' := 17) (ls' := [some (.ref 67), some (.int a1), some (.int a2)]) (st' := [.ref 70]) (h' := h2) (k_67 L2) rfl rfl ?_
  refine mX_to 4 (k' := 21) (ls' := [some (.ref 67), some (.int a1), some (.int a2)]) (st' := [.ref 67, .int 2, .int ((gI h2 67 12) + 73), .ref 70]) (h' := h2) rfl ?_
  refine mX_ckv (v := .int (gI h2 67 13)) (v' := .int (gI h2 67 13)) (k' := 22) (ls' := [some (.ref 67), some (.int a1), some (.int a2)]) (st' := [.int 2, .int ((gI h2 67 12) + 73), .ref 70]) (h' := h2) (k_67 L2) rfl rfl ?_
  refine mX_to 5 (k' := 27) (ls' := [some (.ref 67), some (.int a1), some (.int a2)]) (st' := [.int a2, .int ((((gI h2 67 12) + 73) + (2 * (gI h2 67 13))) + 1), .ref 70]) (h' := h2) rfl ?_
  refine mX_cki (k' := 28) (ls' := [some (.ref 67), some (.int a1), some (.int a2)]) (st' := []) (h' := (sI h2 70 (ix ((((gI h2 67 12) + 73) + (2 * (gI h2 67 13))) + 1)) a2)) (ckA0 (k_70 L2) (n_70 L2)) rfl fun c3 => ?_
  refine lt_geq2 (X := fun h4 : MH => mX (mE mtab d) KX11_emit 28 [some (.ref 67), some (.int a1), some (.int a2)] [] h4) (a := (sI h2 70 (ix ((((gI h2 67 12) + 73) + (2 * (gI h2 67 13))) + 1)) a2)) (a' := (sI h2 70 (ix ((((gI h2 67 12) + 73) + (2 * (gI h2 67 13))) + 1)) a2)) rfl fun h4 eh4 => ?_
  have L4 : lay h4 := eh4 ▸ layI L2 (by decide)
  refine mX_to 2 (k' := 30) (ls' := [some (.ref 67), some (.int a1), some (.int a2)]) (st' := [.ref 67, .ref 67]) (h' := h4) rfl ?_
  refine mX_ckv (v := .int (gI h4 67 13)) (v' := .int (gI h4 67 13)) (k' := 31) (ls' := [some (.ref 67), some (.int a1), some (.int a2)]) (st' := [.ref 67]) (h' := h4) (k_67 L4) rfl rfl ?_
  refine mX_to 2 (k' := 33) (ls' := [some (.ref 67), some (.int a1), some (.int a2)]) (st' := [.int ((gI h4 67 13) + 1), .ref 67]) (h' := h4) rfl ?_
  refine mX_ckt (k' := 34) (ls' := [some (.ref 67), some (.int a1), some (.int a2)]) (st' := []) (h' := (sI h4 67 13 ((gI h4 67 13) + 1))) (k_67 L4) rfl ?_
  refine lt_geq2 (X := fun h6 : MH => mX (mE mtab d) KX11_emit 34 [some (.ref 67), some (.int a1), some (.int a2)] [] h6) (a := (sI h4 67 13 ((gI h4 67 13) + 1))) (a' := (sI h4 67 13 ((gI h4 67 13) + 1))) rfl fun h6 eh6 => ?_
  have L6 : lay h6 := eh6 ▸ layI L4 (by decide)
  exact mX_ret rfl
theorem S_X11_settle_42 {h : MH} (L : lay h) (d : Nat) (l1 : Int32) : G_X11_settle_42 d l1 h = lt_ (sI h 67 17 ((gI h 67 17) - 1)) fun h13 => G_X11_settle_0 d l1 h13 := by
  refine mX_to 2 (k' := 44) (ls' := [some (.ref 67), some (.int l1)]) (st' := [.ref 67, .ref 67]) (h' := h) rfl ?_
  refine mX_ckv (v := .int (gI h 67 17)) (v' := .int (gI h 67 17)) (k' := 45) (ls' := [some (.ref 67), some (.int l1)]) (st' := [.ref 67]) (h' := h) (k_67 L) rfl rfl ?_
  refine mX_to 2 (k' := 47) (ls' := [some (.ref 67), some (.int l1)]) (st' := [.int ((gI h 67 17) - 1), .ref 67]) (h' := h) rfl ?_
  refine mX_ckt (k' := 48) (ls' := [some (.ref 67), some (.int l1)]) (st' := []) (h' := (sI h 67 17 ((gI h 67 17) - 1))) (k_67 L) rfl ?_
  refine lt_geq2 (X := fun h13 : MH => mX (mE mtab d) KX11_settle 48 [some (.ref 67), some (.int l1)] [] h13) (a := (sI h 67 17 ((gI h 67 17) - 1))) (a' := (sI h 67 17 ((gI h 67 17) - 1))) rfl fun h13 eh13 => ?_
  have L13 : lay h13 := eh13 ▸ layI L (by decide)
  refine mX_to 1 (k' := 0) (ls' := [some (.ref 67), some (.int l1)]) (st' := []) (h' := h13) rfl ?_
  rfl
theorem S_X11_settle_0 {h : MH} (L : lay h) (d : Nat) (l1 : Int32) : G_X11_settle_0 d l1 h = (if (gI h 67 16) ≤ 0 then some (.int 0, h) else ck (ib ((gI h 67 16) - 1) 160) (cI (F_X11_rank d (gI h 72 (ix ((gI h 67 16) - 1))) h) (fun x15 h14 => (if x15 < l1 then some (.int 0, h14) else lt_ (sI h14 67 16 ((gI h14 67 16) - 1)) fun h17 => ck (ib (gI h17 67 16) 160) (cV (F_X11_emit d (gI h17 72 (ix (gI h17 67 16))) 0 h17) (fun h18 => ck (ib (gI h18 67 16) 160) (cI (F_X11_rank d (gI h18 72 (ix (gI h18 67 16))) h18) (fun x20 h19 => (if x20 = 7 then G_X11_settle_42 d l1 h19 else ck (ib (gI h19 67 16) 160) ((if (gI h19 72 (ix (gI h19 67 16))) = 20 then G_X11_settle_42 d l1 h19 else G_X11_settle_0 d l1 h19))))))))))) := by
  refine mX_to 1 (k' := 1) (ls' := [some (.ref 67), some (.int l1)]) (st' := [.ref 67]) (h' := h) rfl ?_
  refine mX_ckv (v := .int (gI h 67 16)) (v' := .int (gI h 67 16)) (k' := 2) (ls' := [some (.ref 67), some (.int l1)]) (st' := []) (h' := h) (k_67 L) rfl rfl ?_
  refine mX_br (t := 49) (f := 3) (ls' := [some (.ref 67), some (.int l1)]) (st' := []) (h' := h) rfl ?_ ?_
  · exact mX_ret rfl
  · refine mX_to 1 (k' := 4) (ls' := [some (.ref 67), some (.int l1)]) (st' := [.ref 67]) (h' := h) rfl ?_
    refine mX_ckv (v := .ref (gR h 67 15)) (v' := .ref 72) (k' := 5) (ls' := [some (.ref 67), some (.int l1)]) (st' := []) (h' := h) (k_67 L) (congrArg Value.ref (r_67_15 L)) rfl ?_
    refine mX_to 1 (k' := 6) (ls' := [some (.ref 67), some (.int l1)]) (st' := [.ref 67, .ref 72]) (h' := h) rfl ?_
    refine mX_ckv (v := .int (gI h 67 16)) (v' := .int (gI h 67 16)) (k' := 7) (ls' := [some (.ref 67), some (.int l1)]) (st' := [.ref 72]) (h' := h) (k_67 L) rfl rfl ?_
    refine mX_to 2 (k' := 9) (ls' := [some (.ref 67), some (.int l1)]) (st' := [.int ((gI h 67 16) - 1), .ref 72]) (h' := h) rfl ?_
    refine mX_ckw (v := .int (gI h 72 (ix ((gI h 67 16) - 1)))) (v' := .int (gI h 72 (ix ((gI h 67 16) - 1)))) (k' := 10) (ls' := [some (.ref 67), some (.int l1)]) (st' := []) (h' := h) (ckA1 (k_72 L) (n_72 L)) rfl rfl fun c24 => ?_
    refine mX_cIe (o := F_X11_rank d (gI h 72 (ix ((gI h 67 16) - 1))) h) (k' := 11) (ls' := [some (.ref 67), some (.int l1)]) (st' := []) rfl ?_
    intro x15 h14 eh14
    have L14 : lay h14 := lay_call d 113 [.int (gI h 72 (ix ((gI h 67 16) - 1)))] h _ h14 rfl eh14 L
    refine mX_to 1 (k' := 12) (ls' := [some (.ref 67), some (.int l1)]) (st' := [.int l1, .int x15]) (h' := h14) rfl ?_
    refine mX_br (t := 49) (f := 13) (ls' := [some (.ref 67), some (.int l1)]) (st' := []) (h' := h14) rfl ?_ ?_
    · exact mX_ret rfl
    · refine mX_to 2 (k' := 15) (ls' := [some (.ref 67), some (.int l1)]) (st' := [.ref 67, .ref 67]) (h' := h14) rfl ?_
      refine mX_ckv (v := .int (gI h14 67 16)) (v' := .int (gI h14 67 16)) (k' := 16) (ls' := [some (.ref 67), some (.int l1)]) (st' := [.ref 67]) (h' := h14) (k_67 L14) rfl rfl ?_
      refine mX_to 2 (k' := 18) (ls' := [some (.ref 67), some (.int l1)]) (st' := [.int ((gI h14 67 16) - 1), .ref 67]) (h' := h14) rfl ?_
      refine mX_ckt (k' := 19) (ls' := [some (.ref 67), some (.int l1)]) (st' := []) (h' := (sI h14 67 16 ((gI h14 67 16) - 1))) (k_67 L14) rfl ?_
      refine lt_geq2 (X := fun h17 : MH => mX (mE mtab d) KX11_settle 19 [some (.ref 67), some (.int l1)] [] h17) (a := (sI h14 67 16 ((gI h14 67 16) - 1))) (a' := (sI h14 67 16 ((gI h14 67 16) - 1))) rfl fun h17 eh17 => ?_
      have L17 : lay h17 := eh17 ▸ layI L14 (by decide)
      refine mX_to 2 (k' := 21) (ls' := [some (.ref 67), some (.int l1)]) (st' := [.ref 67, .ref 67]) (h' := h17) rfl ?_
      refine mX_ckv (v := .ref (gR h17 67 15)) (v' := .ref 72) (k' := 22) (ls' := [some (.ref 67), some (.int l1)]) (st' := [.ref 67]) (h' := h17) (k_67 L17) (congrArg Value.ref (r_67_15 L17)) rfl ?_
      refine mX_to 1 (k' := 23) (ls' := [some (.ref 67), some (.int l1)]) (st' := [.ref 67, .ref 72, .ref 67]) (h' := h17) rfl ?_
      refine mX_ckv (v := .int (gI h17 67 16)) (v' := .int (gI h17 67 16)) (k' := 24) (ls' := [some (.ref 67), some (.int l1)]) (st' := [.ref 72, .ref 67]) (h' := h17) (k_67 L17) rfl rfl ?_
      refine mX_ckw (v := .int (gI h17 72 (ix (gI h17 67 16)))) (v' := .int (gI h17 72 (ix (gI h17 67 16)))) (k' := 25) (ls' := [some (.ref 67), some (.int l1)]) (st' := [.ref 67]) (h' := h17) (ckA1 (k_72 L17) (n_72 L17)) rfl rfl fun c23 => ?_
      refine mX_to 1 (k' := 26) (ls' := [some (.ref 67), some (.int l1)]) (st' := [.int 0, .int (gI h17 72 (ix (gI h17 67 16))), .ref 67]) (h' := h17) rfl ?_
      refine mX_ckct (m := mcl (mE mtab d 117 [.ref 67, .int (gI h17 72 (ix (gI h17 67 16))), .int 0] h17) 0 27 [some (.ref 67), some (.int l1)] []) (k_67 L17) rfl ?_
      refine mk_cVe (o := F_X11_emit d (gI h17 72 (ix (gI h17 67 16))) 0 h17) ?_
      intro wh18 h18 eh18
      have L18 : lay h18 := lay_call d 117 [.ref 67, .int (gI h17 72 (ix (gI h17 67 16))), .int 0] h17 _ h18 rfl eh18 L17
      refine mX_to 1 (k' := 28) (ls' := [some (.ref 67), some (.int l1)]) (st' := [.ref 67]) (h' := h18) rfl ?_
      refine mX_ckv (v := .ref (gR h18 67 15)) (v' := .ref 72) (k' := 29) (ls' := [some (.ref 67), some (.int l1)]) (st' := []) (h' := h18) (k_67 L18) (congrArg Value.ref (r_67_15 L18)) rfl ?_
      refine mX_to 1 (k' := 30) (ls' := [some (.ref 67), some (.int l1)]) (st' := [.ref 67, .ref 72]) (h' := h18) rfl ?_
      refine mX_ckv (v := .int (gI h18 67 16)) (v' := .int (gI h18 67 16)) (k' := 31) (ls' := [some (.ref 67), some (.int l1)]) (st' := [.ref 72]) (h' := h18) (k_67 L18) rfl rfl ?_
      refine mX_ckw (v := .int (gI h18 72 (ix (gI h18 67 16)))) (v' := .int (gI h18 72 (ix (gI h18 67 16)))) (k' := 32) (ls' := [some (.ref 67), some (.int l1)]) (st' := []) (h' := h18) (ckA1 (k_72 L18) (n_72 L18)) rfl rfl fun c22 => ?_
      refine mX_cIe (o := F_X11_rank d (gI h18 72 (ix (gI h18 67 16))) h18) (k' := 33) (ls' := [some (.ref 67), some (.int l1)]) (st' := []) rfl ?_
      intro x20 h19 eh19
      have L19 : lay h19 := lay_call d 113 [.int (gI h18 72 (ix (gI h18 67 16)))] h18 _ h19 rfl eh19 L18
      refine mX_to 1 (k' := 34) (ls' := [some (.ref 67), some (.int l1)]) (st' := [.int 7, .int x20]) (h' := h19) rfl ?_
      refine mX_br (t := 42) (f := 35) (ls' := [some (.ref 67), some (.int l1)]) (st' := []) (h' := h19) rfl ?_ ?_
      · rfl
      · refine mX_to 1 (k' := 36) (ls' := [some (.ref 67), some (.int l1)]) (st' := [.ref 67]) (h' := h19) rfl ?_
        refine mX_ckv (v := .ref (gR h19 67 15)) (v' := .ref 72) (k' := 37) (ls' := [some (.ref 67), some (.int l1)]) (st' := []) (h' := h19) (k_67 L19) (congrArg Value.ref (r_67_15 L19)) rfl ?_
        refine mX_to 1 (k' := 38) (ls' := [some (.ref 67), some (.int l1)]) (st' := [.ref 67, .ref 72]) (h' := h19) rfl ?_
        refine mX_ckv (v := .int (gI h19 67 16)) (v' := .int (gI h19 67 16)) (k' := 39) (ls' := [some (.ref 67), some (.int l1)]) (st' := [.ref 72]) (h' := h19) (k_67 L19) rfl rfl ?_
        refine mX_ckw (v := .int (gI h19 72 (ix (gI h19 67 16)))) (v' := .int (gI h19 72 (ix (gI h19 67 16)))) (k' := 40) (ls' := [some (.ref 67), some (.int l1)]) (st' := []) (h' := h19) (ckA1 (k_72 L19) (n_72 L19)) rfl rfl fun c21 => ?_
        refine mX_to 1 (k' := 41) (ls' := [some (.ref 67), some (.int l1)]) (st' := [.int 20, .int (gI h19 72 (ix (gI h19 67 16)))]) (h' := h19) rfl ?_
        refine mX_br (t := 42) (f := 0) (ls' := [some (.ref 67), some (.int l1)]) (st' := []) (h' := h19) rfl ?_ ?_
        · rfl
        · rfl
theorem S_X11_settle {h : MH} (L : lay h) (d : Nat) (a1 : Int32) : F_X11_settle (d + 1) a1 h = (if (gI h 67 16) ≤ 0 then some (.int 0, h) else ck (ib ((gI h 67 16) - 1) 160) (cI (F_X11_rank d (gI h 72 (ix ((gI h 67 16) - 1))) h) (fun x2 h1 => (if x2 < a1 then some (.int 0, h1) else lt_ (sI h1 67 16 ((gI h1 67 16) - 1)) fun h4 => ck (ib (gI h4 67 16) 160) (cV (F_X11_emit d (gI h4 72 (ix (gI h4 67 16))) 0 h4) (fun h5 => ck (ib (gI h5 67 16) 160) (cI (F_X11_rank d (gI h5 72 (ix (gI h5 67 16))) h5) (fun x7 h6 => (if x7 = 7 then G_X11_settle_42 d a1 h6 else ck (ib (gI h6 67 16) 160) ((if (gI h6 72 (ix (gI h6 67 16))) = 20 then G_X11_settle_42 d a1 h6 else G_X11_settle_0 d a1 h6))))))))))) := by
  refine mE_eq (q := (yX11_settle, cX11_settle, 2, none, KX11_settle)) (C := KX11_settle) (ls := [some (.ref 67), some (.int a1)]) rfl rfl rfl rfl ?_
  refine mX_to 1 (k' := 1) (ls' := [some (.ref 67), some (.int a1)]) (st' := [.ref 67]) (h' := h) rfl ?_
  refine mX_ckv (v := .int (gI h 67 16)) (v' := .int (gI h 67 16)) (k' := 2) (ls' := [some (.ref 67), some (.int a1)]) (st' := []) (h' := h) (k_67 L) rfl rfl ?_
  refine mX_br (t := 49) (f := 3) (ls' := [some (.ref 67), some (.int a1)]) (st' := []) (h' := h) rfl ?_ ?_
  · exact mX_ret rfl
  · refine mX_to 1 (k' := 4) (ls' := [some (.ref 67), some (.int a1)]) (st' := [.ref 67]) (h' := h) rfl ?_
    refine mX_ckv (v := .ref (gR h 67 15)) (v' := .ref 72) (k' := 5) (ls' := [some (.ref 67), some (.int a1)]) (st' := []) (h' := h) (k_67 L) (congrArg Value.ref (r_67_15 L)) rfl ?_
    refine mX_to 1 (k' := 6) (ls' := [some (.ref 67), some (.int a1)]) (st' := [.ref 67, .ref 72]) (h' := h) rfl ?_
    refine mX_ckv (v := .int (gI h 67 16)) (v' := .int (gI h 67 16)) (k' := 7) (ls' := [some (.ref 67), some (.int a1)]) (st' := [.ref 72]) (h' := h) (k_67 L) rfl rfl ?_
    refine mX_to 2 (k' := 9) (ls' := [some (.ref 67), some (.int a1)]) (st' := [.int ((gI h 67 16) - 1), .ref 72]) (h' := h) rfl ?_
    refine mX_ckw (v := .int (gI h 72 (ix ((gI h 67 16) - 1)))) (v' := .int (gI h 72 (ix ((gI h 67 16) - 1)))) (k' := 10) (ls' := [some (.ref 67), some (.int a1)]) (st' := []) (h' := h) (ckA1 (k_72 L) (n_72 L)) rfl rfl fun c11 => ?_
    refine mX_cIe (o := F_X11_rank d (gI h 72 (ix ((gI h 67 16) - 1))) h) (k' := 11) (ls' := [some (.ref 67), some (.int a1)]) (st' := []) rfl ?_
    intro x2 h1 eh1
    have L1 : lay h1 := lay_call d 113 [.int (gI h 72 (ix ((gI h 67 16) - 1)))] h _ h1 rfl eh1 L
    refine mX_to 1 (k' := 12) (ls' := [some (.ref 67), some (.int a1)]) (st' := [.int a1, .int x2]) (h' := h1) rfl ?_
    refine mX_br (t := 49) (f := 13) (ls' := [some (.ref 67), some (.int a1)]) (st' := []) (h' := h1) rfl ?_ ?_
    · exact mX_ret rfl
    · refine mX_to 2 (k' := 15) (ls' := [some (.ref 67), some (.int a1)]) (st' := [.ref 67, .ref 67]) (h' := h1) rfl ?_
      refine mX_ckv (v := .int (gI h1 67 16)) (v' := .int (gI h1 67 16)) (k' := 16) (ls' := [some (.ref 67), some (.int a1)]) (st' := [.ref 67]) (h' := h1) (k_67 L1) rfl rfl ?_
      refine mX_to 2 (k' := 18) (ls' := [some (.ref 67), some (.int a1)]) (st' := [.int ((gI h1 67 16) - 1), .ref 67]) (h' := h1) rfl ?_
      refine mX_ckt (k' := 19) (ls' := [some (.ref 67), some (.int a1)]) (st' := []) (h' := (sI h1 67 16 ((gI h1 67 16) - 1))) (k_67 L1) rfl ?_
      refine lt_geq2 (X := fun h4 : MH => mX (mE mtab d) KX11_settle 19 [some (.ref 67), some (.int a1)] [] h4) (a := (sI h1 67 16 ((gI h1 67 16) - 1))) (a' := (sI h1 67 16 ((gI h1 67 16) - 1))) rfl fun h4 eh4 => ?_
      have L4 : lay h4 := eh4 ▸ layI L1 (by decide)
      refine mX_to 2 (k' := 21) (ls' := [some (.ref 67), some (.int a1)]) (st' := [.ref 67, .ref 67]) (h' := h4) rfl ?_
      refine mX_ckv (v := .ref (gR h4 67 15)) (v' := .ref 72) (k' := 22) (ls' := [some (.ref 67), some (.int a1)]) (st' := [.ref 67]) (h' := h4) (k_67 L4) (congrArg Value.ref (r_67_15 L4)) rfl ?_
      refine mX_to 1 (k' := 23) (ls' := [some (.ref 67), some (.int a1)]) (st' := [.ref 67, .ref 72, .ref 67]) (h' := h4) rfl ?_
      refine mX_ckv (v := .int (gI h4 67 16)) (v' := .int (gI h4 67 16)) (k' := 24) (ls' := [some (.ref 67), some (.int a1)]) (st' := [.ref 72, .ref 67]) (h' := h4) (k_67 L4) rfl rfl ?_
      refine mX_ckw (v := .int (gI h4 72 (ix (gI h4 67 16)))) (v' := .int (gI h4 72 (ix (gI h4 67 16)))) (k' := 25) (ls' := [some (.ref 67), some (.int a1)]) (st' := [.ref 67]) (h' := h4) (ckA1 (k_72 L4) (n_72 L4)) rfl rfl fun c10 => ?_
      refine mX_to 1 (k' := 26) (ls' := [some (.ref 67), some (.int a1)]) (st' := [.int 0, .int (gI h4 72 (ix (gI h4 67 16))), .ref 67]) (h' := h4) rfl ?_
      refine mX_ckct (m := mcl (mE mtab d 117 [.ref 67, .int (gI h4 72 (ix (gI h4 67 16))), .int 0] h4) 0 27 [some (.ref 67), some (.int a1)] []) (k_67 L4) rfl ?_
      refine mk_cVe (o := F_X11_emit d (gI h4 72 (ix (gI h4 67 16))) 0 h4) ?_
      intro wh5 h5 eh5
      have L5 : lay h5 := lay_call d 117 [.ref 67, .int (gI h4 72 (ix (gI h4 67 16))), .int 0] h4 _ h5 rfl eh5 L4
      refine mX_to 1 (k' := 28) (ls' := [some (.ref 67), some (.int a1)]) (st' := [.ref 67]) (h' := h5) rfl ?_
      refine mX_ckv (v := .ref (gR h5 67 15)) (v' := .ref 72) (k' := 29) (ls' := [some (.ref 67), some (.int a1)]) (st' := []) (h' := h5) (k_67 L5) (congrArg Value.ref (r_67_15 L5)) rfl ?_
      refine mX_to 1 (k' := 30) (ls' := [some (.ref 67), some (.int a1)]) (st' := [.ref 67, .ref 72]) (h' := h5) rfl ?_
      refine mX_ckv (v := .int (gI h5 67 16)) (v' := .int (gI h5 67 16)) (k' := 31) (ls' := [some (.ref 67), some (.int a1)]) (st' := [.ref 72]) (h' := h5) (k_67 L5) rfl rfl ?_
      refine mX_ckw (v := .int (gI h5 72 (ix (gI h5 67 16)))) (v' := .int (gI h5 72 (ix (gI h5 67 16)))) (k' := 32) (ls' := [some (.ref 67), some (.int a1)]) (st' := []) (h' := h5) (ckA1 (k_72 L5) (n_72 L5)) rfl rfl fun c9 => ?_
      refine mX_cIe (o := F_X11_rank d (gI h5 72 (ix (gI h5 67 16))) h5) (k' := 33) (ls' := [some (.ref 67), some (.int a1)]) (st' := []) rfl ?_
      intro x7 h6 eh6
      have L6 : lay h6 := lay_call d 113 [.int (gI h5 72 (ix (gI h5 67 16)))] h5 _ h6 rfl eh6 L5
      refine mX_to 1 (k' := 34) (ls' := [some (.ref 67), some (.int a1)]) (st' := [.int 7, .int x7]) (h' := h6) rfl ?_
      refine mX_br (t := 42) (f := 35) (ls' := [some (.ref 67), some (.int a1)]) (st' := []) (h' := h6) rfl ?_ ?_
      · rfl
      · refine mX_to 1 (k' := 36) (ls' := [some (.ref 67), some (.int a1)]) (st' := [.ref 67]) (h' := h6) rfl ?_
        refine mX_ckv (v := .ref (gR h6 67 15)) (v' := .ref 72) (k' := 37) (ls' := [some (.ref 67), some (.int a1)]) (st' := []) (h' := h6) (k_67 L6) (congrArg Value.ref (r_67_15 L6)) rfl ?_
        refine mX_to 1 (k' := 38) (ls' := [some (.ref 67), some (.int a1)]) (st' := [.ref 67, .ref 72]) (h' := h6) rfl ?_
        refine mX_ckv (v := .int (gI h6 67 16)) (v' := .int (gI h6 67 16)) (k' := 39) (ls' := [some (.ref 67), some (.int a1)]) (st' := [.ref 72]) (h' := h6) (k_67 L6) rfl rfl ?_
        refine mX_ckw (v := .int (gI h6 72 (ix (gI h6 67 16)))) (v' := .int (gI h6 72 (ix (gI h6 67 16)))) (k' := 40) (ls' := [some (.ref 67), some (.int a1)]) (st' := []) (h' := h6) (ckA1 (k_72 L6) (n_72 L6)) rfl rfl fun c8 => ?_
        refine mX_to 1 (k' := 41) (ls' := [some (.ref 67), some (.int a1)]) (st' := [.int 20, .int (gI h6 72 (ix (gI h6 67 16)))]) (h' := h6) rfl ?_
        refine mX_br (t := 42) (f := 0) (ls' := [some (.ref 67), some (.int a1)]) (st' := []) (h' := h6) rfl ?_ ?_
        · rfl
        · rfl
