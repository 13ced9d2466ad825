--deps:19.lay 21.facts 22.00.names
/-! EQUATIONS over the fixed cells (written by wip/gen/sgen.py) -/
theorem S_X11_factorial_4 {h : MH} (L : lay h) (d : Nat) (l0 : Int32) (l1 : Int32) (l2 : Int32) : G_X11_factorial_4 d l0 l1 l2 h = (if l2 ≤ l0 then G_X11_factorial_4 d l0 (l1 * l2) (l2 + 1) h else some (.int l1, h)) := by
  refine mX_to 2 (k' := 6) (ls' := [some (.int l0), some (.int l1), some (.int l2)]) (st' := [.int l0, .int l2]) (h' := h) rfl ?_
  refine mX_br (t := 7) (f := 13) (ls' := [some (.int l0), some (.int l1), some (.int l2)]) (st' := []) (h' := h) rfl ?_ ?_
  · refine mX_to 6 (k' := 4) (ls' := [some (.int l0), some (.int (l1 * l2)), some (.int (l2 + 1))]) (st' := []) (h' := h) rfl ?_
    rfl
  · refine mX_to 1 (k' := 14) (ls' := [some (.int l0), some (.int l1), some (.int l2)]) (st' := [.int l1]) (h' := h) rfl ?_
    exact mX_reti rfl
theorem S_X11_factorial {h : MH} (L : lay h) (d : Nat) (a0 : Int32) : F_X11_factorial (d + 1) a0 h = G_X11_factorial_4 d a0 1 2 h := by
  refine mE_eq (q := (yX11_factorial, cX11_factorial, 3, (some .int), KX11_factorial)) (C := KX11_factorial) (ls := [some (.int a0), none, none]) rfl rfl rfl rfl ?_
  refine mX_to 4 (k' := 4) (ls' := [some (.int a0), some (.int 1), some (.int 2)]) (st' := []) (h' := h) rfl ?_
  rfl
theorem S_X11_divisor_5 {h : MH} (L : lay h) (d : Nat) (l0 : Int32) (l1 : Int32) (l2 : Int32) (l3 : Int32) (o4 : Option Value) : G_X11_divisor_5 d l0 l1 l2 l3 o4 h = (if l3 = 0 then some (.int l2, h) else ck (¬ l3 = 0) (lt_ (l2 - l2 / l3 * l3) fun v3 => G_X11_divisor_5 d l0 l1 l3 v3 (some (.int v3)) h)) := by
  refine mX_to 1 (k' := 6) (ls' := [some (.int l0), some (.int l1), some (.int l2), some (.int l3), o4]) (st' := [.int l3]) (h' := h) rfl ?_
  refine mX_br (t := 16) (f := 7) (ls' := [some (.int l0), some (.int l1), some (.int l2), some (.int l3), o4]) (st' := []) (h' := h) rfl ?_ ?_
  · refine mX_to 1 (k' := 17) (ls' := [some (.int l0), some (.int l1), some (.int l2), some (.int l3), o4]) (st' := [.int l2]) (h' := h) rfl ?_
    exact mX_reti rfl
  · refine mX_to 2 (k' := 9) (ls' := [some (.int l0), some (.int l1), some (.int l2), some (.int l3), o4]) (st' := [.int l3, .int l2]) (h' := h) rfl ?_
    refine mX_ck (k' := 10) (ls' := [some (.int l0), some (.int l1), some (.int l2), some (.int l3), o4]) (st' := [.int (l2 - l2 / l3 * l3)]) (h' := h) rfl ?_
    refine lt_gen (X := fun v3 : Int32 => mX (mE mtab d) KX11_divisor 10 [some (.int l0), some (.int l1), some (.int l2), some (.int l3), o4] [.int v3] h) fun v3 => ?_
    refine mX_to 6 (k' := 5) (ls' := [some (.int l0), some (.int l1), some (.int l3), some (.int v3), some (.int v3)]) (st' := []) (h' := h) rfl ?_
    rfl
theorem S_X11_divisor {h : MH} (L : lay h) (d : Nat) (a0 : Int32) (a1 : Int32) : F_X11_divisor (d + 1) a0 a1 h = cI (F_X11_size d a0 h) (fun x2 h1 => G_X11_divisor_5 d a0 a1 x2 a1 none h1) := by
  refine mE_eq (q := (yX11_divisor, cX11_divisor, 5, (some .int), KX11_divisor)) (C := KX11_divisor) (ls := [some (.int a0), some (.int a1), none, none, none]) rfl rfl rfl rfl ?_
  refine mX_to 1 (k' := 1) (ls' := [some (.int a0), some (.int a1), none, none, none]) (st' := [.int a0]) (h' := h) rfl ?_
  refine mX_cIe (o := F_X11_size d a0 h) (k' := 2) (ls' := [some (.int a0), some (.int a1), none, none, none]) (st' := []) rfl ?_
  intro x2 h1 eh1
  have L1 : lay h1 := lay_call d 157 [.int a0] h _ h1 rfl eh1 L
  refine mX_to 3 (k' := 5) (ls' := [some (.int a0), some (.int a1), some (.int x2), some (.int a1), none]) (st' := []) (h' := h1) rfl ?_
  rfl
theorem S_X11_share_15 {h : MH} (L : lay h) (d : Nat) (l1 : Int32) (l2 : Int32) (l3 : Int32) (l4 : Int32) (l5 : Int32) : G_X11_share_15 d l1 l2 l3 l4 l5 h = cI (F_X11_everyone d h) (fun x4 h3 => (if l5 ≤ x4 then cI (F_X11_has d l5 l1 h3) (fun x6 h5 => (if x6 = 0 then cI (F_X11_tipOf d (l5 ||| (1 <<< (l1 &&& 31))) h5) (fun x8 h7 => cI (F_X11_size d x8 h7) (fun x10 h9 => cI (F_X11_tipOf d l5 h9) (fun x12 h11 => cI (F_X11_size d x12 h11) (fun x14 h13 => cI (F_X11_bits d l5 h13) (fun x16 h15 => cI (F_X11_factorial d x16 h15) (fun x18 h17 => cI (F_X11_bits d l5 h17) (fun x20 h19 => cI (F_X11_factorial d ((l4 - 1) - x20) h19) (fun x22 h21 => lt_ (l3 + (((x10 - x14) * x18) * x22)) fun v23 => G_X11_share_51 d l1 l2 v23 l4 l5 h21)))))))) else G_X11_share_51 d l1 l2 l3 l4 l5 h5)) else (if l2 = 0 then G_X11_share_59 d l1 l2 l3 l4 l5 l3 h3 else cI (F_X11_factorial d l4 h3) (fun x25 h24 => G_X11_share_59 d l1 l2 l3 l4 l5 x25 h24)))) := by
  refine mX_to 2 (k' := 17) (ls' := [some (.ref 67), some (.int l1), some (.int l2), some (.int l3), some (.int l4), some (.int l5)]) (st' := [.ref 67, .int l5]) (h' := h) rfl ?_
  refine mX_ckct (m := mcl (mE mtab d 154 [.ref 67] h) 1 18 [some (.ref 67), some (.int l1), some (.int l2), some (.int l3), some (.int l4), some (.int l5)] [.int l5]) (k_67 L) rfl ?_
  refine mk_cIe (o := F_X11_everyone d h) ?_
  intro x4 h3 eh3
  have L3 : lay h3 := lay_call d 154 [.ref 67] h _ h3 rfl eh3 L
  refine mX_br (t := 19) (f := 53) (ls' := [some (.ref 67), some (.int l1), some (.int l2), some (.int l3), some (.int l4), some (.int l5)]) (st' := []) (h' := h3) rfl ?_ ?_
  · refine mX_to 2 (k' := 21) (ls' := [some (.ref 67), some (.int l1), some (.int l2), some (.int l3), some (.int l4), some (.int l5)]) (st' := [.int l1, .int l5]) (h' := h3) rfl ?_
    refine mX_cIe (o := F_X11_has d l5 l1 h3) (k' := 22) (ls' := [some (.ref 67), some (.int l1), some (.int l2), some (.int l3), some (.int l4), some (.int l5)]) (st' := []) rfl ?_
    intro x6 h5 eh5
    have L5 : lay h5 := lay_call d 108 [.int l5, .int l1] h3 _ h5 rfl eh5 L3
    refine mX_br (t := 23) (f := 51) (ls' := [some (.ref 67), some (.int l1), some (.int l2), some (.int l3), some (.int l4), some (.int l5)]) (st' := []) (h' := h5) rfl ?_ ?_
    · refine mX_to 7 (k' := 30) (ls' := [some (.ref 67), some (.int l1), some (.int l2), some (.int l3), some (.int l4), some (.int l5)]) (st' := [.int (l5 ||| (1 <<< (l1 &&& 31))), .ref 67, .int l3]) (h' := h5) rfl ?_
      refine mX_ckct (m := mcl (mE mtab d 155 [.ref 67, .int (l5 ||| (1 <<< (l1 &&& 31)))] h5) 1 31 [some (.ref 67), some (.int l1), some (.int l2), some (.int l3), some (.int l4), some (.int l5)] [.int l3]) (k_67 L5) rfl ?_
      refine mk_cIe (o := F_X11_tipOf d (l5 ||| (1 <<< (l1 &&& 31))) h5) ?_
      intro x8 h7 eh7
      have L7 : lay h7 := lay_call d 155 [.ref 67, .int (l5 ||| (1 <<< (l1 &&& 31)))] h5 _ h7 rfl eh7 L5
      refine mX_cIe (o := F_X11_size d x8 h7) (k' := 32) (ls' := [some (.ref 67), some (.int l1), some (.int l2), some (.int l3), some (.int l4), some (.int l5)]) (st' := [.int l3]) rfl ?_
      intro x10 h9 eh9
      have L9 : lay h9 := lay_call d 157 [.int x8] h7 _ h9 rfl eh9 L7
      refine mX_to 2 (k' := 34) (ls' := [some (.ref 67), some (.int l1), some (.int l2), some (.int l3), some (.int l4), some (.int l5)]) (st' := [.int l5, .ref 67, .int x10, .int l3]) (h' := h9) rfl ?_
      refine mX_ckct (m := mcl (mE mtab d 155 [.ref 67, .int l5] h9) 1 35 [some (.ref 67), some (.int l1), some (.int l2), some (.int l3), some (.int l4), some (.int l5)] [.int x10, .int l3]) (k_67 L9) rfl ?_
      refine mk_cIe (o := F_X11_tipOf d l5 h9) ?_
      intro x12 h11 eh11
      have L11 : lay h11 := lay_call d 155 [.ref 67, .int l5] h9 _ h11 rfl eh11 L9
      refine mX_cIe (o := F_X11_size d x12 h11) (k' := 36) (ls' := [some (.ref 67), some (.int l1), some (.int l2), some (.int l3), some (.int l4), some (.int l5)]) (st' := [.int x10, .int l3]) rfl ?_
      intro x14 h13 eh13
      have L13 : lay h13 := lay_call d 157 [.int x12] h11 _ h13 rfl eh13 L11
      refine mX_to 2 (k' := 38) (ls' := [some (.ref 67), some (.int l1), some (.int l2), some (.int l3), some (.int l4), some (.int l5)]) (st' := [.int l5, .int (x10 - x14), .int l3]) (h' := h13) rfl ?_
      refine mX_cIe (o := F_X11_bits d l5 h13) (k' := 39) (ls' := [some (.ref 67), some (.int l1), some (.int l2), some (.int l3), some (.int l4), some (.int l5)]) (st' := [.int (x10 - x14), .int l3]) rfl ?_
      intro x16 h15 eh15
      have L15 : lay h15 := lay_call d 268 [.int l5] h13 _ h15 rfl eh15 L13
      refine mX_cIe (o := F_X11_factorial d x16 h15) (k' := 40) (ls' := [some (.ref 67), some (.int l1), some (.int l2), some (.int l3), some (.int l4), some (.int l5)]) (st' := [.int (x10 - x14), .int l3]) rfl ?_
      intro x18 h17 eh17
      have L17 : lay h17 := lay_call d 293 [.int x16] h15 _ h17 rfl eh17 L15
      refine mX_to 5 (k' := 45) (ls' := [some (.ref 67), some (.int l1), some (.int l2), some (.int l3), some (.int l4), some (.int l5)]) (st' := [.int l5, .int (l4 - 1), .int ((x10 - x14) * x18), .int l3]) (h' := h17) rfl ?_
      refine mX_cIe (o := F_X11_bits d l5 h17) (k' := 46) (ls' := [some (.ref 67), some (.int l1), some (.int l2), some (.int l3), some (.int l4), some (.int l5)]) (st' := [.int (l4 - 1), .int ((x10 - x14) * x18), .int l3]) rfl ?_
      intro x20 h19 eh19
      have L19 : lay h19 := lay_call d 268 [.int l5] h17 _ h19 rfl eh19 L17
      refine mX_to 1 (k' := 47) (ls' := [some (.ref 67), some (.int l1), some (.int l2), some (.int l3), some (.int l4), some (.int l5)]) (st' := [.int ((l4 - 1) - x20), .int ((x10 - x14) * x18), .int l3]) (h' := h19) rfl ?_
      refine mX_cIe (o := F_X11_factorial d ((l4 - 1) - x20) h19) (k' := 48) (ls' := [some (.ref 67), some (.int l1), some (.int l2), some (.int l3), some (.int l4), some (.int l5)]) (st' := [.int ((x10 - x14) * x18), .int l3]) rfl ?_
      intro x22 h21 eh21
      have L21 : lay h21 := lay_call d 293 [.int ((l4 - 1) - x20)] h19 _ h21 rfl eh21 L19
      refine mX_to 2 (k' := 50) (ls' := [some (.ref 67), some (.int l1), some (.int l2), some (.int l3), some (.int l4), some (.int l5)]) (st' := [.int (l3 + (((x10 - x14) * x18) * x22))]) (h' := h21) rfl ?_
      refine lt_gen (X := fun v23 : Int32 => mX (mE mtab d) KX11_share 50 [some (.ref 67), some (.int l1), some (.int l2), some (.int l3), some (.int l4), some (.int l5)] [.int v23] h21) fun v23 => ?_
      refine mX_to 1 (k' := 51) (ls' := [some (.ref 67), some (.int l1), some (.int l2), some (.int v23), some (.int l4), some (.int l5)]) (st' := []) (h' := h21) rfl ?_
      rfl
    · rfl
  · refine mX_to 1 (k' := 54) (ls' := [some (.ref 67), some (.int l1), some (.int l2), some (.int l3), some (.int l4), some (.int l5)]) (st' := [.int l2]) (h' := h3) rfl ?_
    refine mX_br (t := 58) (f := 55) (ls' := [some (.ref 67), some (.int l1), some (.int l2), some (.int l3), some (.int l4), some (.int l5)]) (st' := []) (h' := h3) rfl ?_ ?_
    · refine mX_to 1 (k' := 59) (ls' := [some (.ref 67), some (.int l1), some (.int l2), some (.int l3), some (.int l4), some (.int l5)]) (st' := [.int l3]) (h' := h3) rfl ?_
      rfl
    · refine mX_to 1 (k' := 56) (ls' := [some (.ref 67), some (.int l1), some (.int l2), some (.int l3), some (.int l4), some (.int l5)]) (st' := [.int l4]) (h' := h3) rfl ?_
      refine mX_cIe (o := F_X11_factorial d l4 h3) (k' := 57) (ls' := [some (.ref 67), some (.int l1), some (.int l2), some (.int l3), some (.int l4), some (.int l5)]) (st' := []) rfl ?_
      intro x25 h24 eh24
      have L24 : lay h24 := lay_call d 293 [.int l4] h3 _ h24 rfl eh24 L3
      refine mX_to 1 (k' := 59) (ls' := [some (.ref 67), some (.int l1), some (.int l2), some (.int l3), some (.int l4), some (.int l5)]) (st' := [.int x25]) (h' := h24) rfl ?_
      rfl
theorem S_X11_share_51 {h : MH} (L : lay h) (d : Nat) (l1 : Int32) (l2 : Int32) (l3 : Int32) (l4 : Int32) (l5 : Int32) : G_X11_share_51 d l1 l2 l3 l4 l5 h = G_X11_share_15 d l1 l2 l3 l4 (l5 + 1) h := by
  refine mX_to 2 (k' := 15) (ls' := [some (.ref 67), some (.int l1), some (.int l2), some (.int l3), some (.int l4), some (.int (l5 + 1))]) (st' := []) (h' := h) rfl ?_
  rfl
theorem S_X11_share_59 {h : MH} (L : lay h) (d : Nat) (l1 : Int32) (l2 : Int32) (l3 : Int32) (l4 : Int32) (l5 : Int32) (s0 : Int32) : G_X11_share_59 d l1 l2 l3 l4 l5 s0 h = cI (F_X11_factorial d l4 h) (fun x27 h26 => cI (F_X11_divisor d l3 x27 h26) (fun x29 h28 => ck (¬ x29 = 0) (some (.int (s0 / x29), h28)))) := by
  refine mX_to 2 (k' := 61) (ls' := [some (.ref 67), some (.int l1), some (.int l2), some (.int l3), some (.int l4), some (.int l5)]) (st' := [.int l4, .int l3, .int s0]) (h' := h) rfl ?_
  refine mX_cIe (o := F_X11_factorial d l4 h) (k' := 62) (ls' := [some (.ref 67), some (.int l1), some (.int l2), some (.int l3), some (.int l4), some (.int l5)]) (st' := [.int l3, .int s0]) rfl ?_
  intro x27 h26 eh26
  have L26 : lay h26 := lay_call d 293 [.int l4] h _ h26 rfl eh26 L
  refine mX_cIe (o := F_X11_divisor d l3 x27 h26) (k' := 63) (ls' := [some (.ref 67), some (.int l1), some (.int l2), some (.int l3), some (.int l4), some (.int l5)]) (st' := [.int s0]) rfl ?_
  intro x29 h28 eh28
  have L28 : lay h28 := lay_call d 294 [.int l3, .int x27] h26 _ h28 rfl eh28 L26
  refine mX_ck (k' := 64) (ls' := [some (.ref 67), some (.int l1), some (.int l2), some (.int l3), some (.int l4), some (.int l5)]) (st' := [.int (s0 / x29)]) (h' := h28) rfl ?_
  exact mX_reti rfl
theorem S_X11_share {h : MH} (L : lay h) (d : Nat) (a1 : Int32) (a2 : Int32) : F_X11_share (d + 1) a1 a2 h = cI (F_X11_isPerson d a1 h) (fun x2 h1 => (if x2 = 0 then some (.int (-1000), h1) else G_X11_share_15 d a1 a2 0 (gI h1 68 0) 0 h1)) := by
  refine mE_eq (q := (yX11_share, cX11_share, 6, (some .int), KX11_share)) (C := KX11_share) (ls := [some (.ref 67), some (.int a1), some (.int a2), none, none, none]) rfl rfl rfl rfl ?_
  refine mX_to 2 (k' := 2) (ls' := [some (.ref 67), some (.int a1), some (.int a2), none, none, none]) (st' := [.int a1, .ref 67]) (h' := h) rfl ?_
  refine mX_ckct (m := mcl (mE mtab d 20 [.ref 67, .int a1] h) 1 3 [some (.ref 67), some (.int a1), some (.int a2), none, none, none] []) (k_67 L) rfl ?_
  refine mk_cIe (o := F_X11_isPerson d a1 h) ?_
  intro x2 h1 eh1
  have L1 : lay h1 := lay_call d 20 [.ref 67, .int a1] h _ h1 rfl eh1 L
  refine mX_br (t := 4) (f := 6) (ls' := [some (.ref 67), some (.int a1), some (.int a2), none, none, none]) (st' := []) (h' := h1) rfl ?_ ?_
  · refine mX_to 1 (k' := 5) (ls' := [some (.ref 67), some (.int a1), some (.int a2), none, none, none]) (st' := [.int (-1000)]) (h' := h1) rfl ?_
    exact mX_reti rfl
  · refine mX_to 3 (k' := 9) (ls' := [some (.ref 67), some (.int a1), some (.int a2), some (.int 0), none, none]) (st' := [.ref 67]) (h' := h1) rfl ?_
    refine mX_ckv (v := .ref (gR h1 67 0)) (v' := .ref 68) (k' := 10) (ls' := [some (.ref 67), some (.int a1), some (.int a2), some (.int 0), none, none]) (st' := []) (h' := h1) (k_67 L1) (congrArg Value.ref (r_67_0 L1)) rfl ?_
    refine mX_to 1 (k' := 11) (ls' := [some (.ref 67), some (.int a1), some (.int a2), some (.int 0), none, none]) (st' := [.int 0, .ref 68]) (h' := h1) rfl ?_
    refine mX_ckv (v := .int (gI h1 68 (ix (0 : Int32)))) (v' := .int (gI h1 68 0)) (k' := 12) (ls' := [some (.ref 67), some (.int a1), some (.int a2), some (.int 0), none, none]) (st' := []) (h' := h1) ((ckA1 (k_68 L1) (n_68 L1)).mpr (ib_lit (n := 0) rfl (by decide) (by decide))) (congrArg (fun j => Value.int (gI h1 68 j)) (ix_lit (n := 0) rfl (by decide))) rfl ?_
    refine mX_to 3 (k' := 15) (ls' := [some (.ref 67), some (.int a1), some (.int a2), some (.int 0), some (.int (gI h1 68 0)), some (.int 0)]) (st' := []) (h' := h1) rfl ?_
    rfl
theorem S_X10_armsOf_4 {h : MH} (L : lay h) (d : Nat) (l0 : Int32) (l1 : Int32) (l2 : Int32) : G_X10_armsOf_4 d l0 l1 l2 h = (if l2 < 9 then cI (F_X10_holds d l0 l2 h) (fun x2 h1 => (if x2 = 0 then G_X10_armsOf_17 d l0 l1 l2 h1 else lt_ (l1 + (l2 - 4)) fun v3 => G_X10_armsOf_17 d l0 v3 l2 h1)) else some (.int l1, h)) := by
  refine mX_to 2 (k' := 6) (ls' := [some (.int l0), some (.int l1), some (.int l2)]) (st' := [.int 9, .int l2]) (h' := h) rfl ?_
  refine mX_br (t := 7) (f := 19) (ls' := [some (.int l0), some (.int l1), some (.int l2)]) (st' := []) (h' := h) rfl ?_ ?_
  · refine mX_to 2 (k' := 9) (ls' := [some (.int l0), some (.int l1), some (.int l2)]) (st' := [.int l2, .int l0]) (h' := h) rfl ?_
    refine mX_cIe (o := F_X10_holds d l0 l2 h) (k' := 10) (ls' := [some (.int l0), some (.int l1), some (.int l2)]) (st' := []) rfl ?_
    intro x2 h1 eh1
    have L1 : lay h1 := lay_call d 257 [.int l0, .int l2] h _ h1 rfl eh1 L
    refine mX_br (t := 17) (f := 11) (ls' := [some (.int l0), some (.int l1), some (.int l2)]) (st' := []) (h' := h1) rfl ?_ ?_
    · rfl
    · refine mX_to 5 (k' := 16) (ls' := [some (.int l0), some (.int l1), some (.int l2)]) (st' := [.int (l1 + (l2 - 4))]) (h' := h1) rfl ?_
      refine lt_gen (X := fun v3 : Int32 => mX (mE mtab d) KX10_armsOf 16 [some (.int l0), some (.int l1), some (.int l2)] [.int v3] h1) fun v3 => ?_
      refine mX_to 1 (k' := 17) (ls' := [some (.int l0), some (.int v3), some (.int l2)]) (st' := []) (h' := h1) rfl ?_
      rfl
  · refine mX_to 1 (k' := 20) (ls' := [some (.int l0), some (.int l1), some (.int l2)]) (st' := [.int l1]) (h' := h) rfl ?_
    exact mX_reti rfl
theorem S_X10_armsOf_17 {h : MH} (L : lay h) (d : Nat) (l0 : Int32) (l1 : Int32) (l2 : Int32) : G_X10_armsOf_17 d l0 l1 l2 h = G_X10_armsOf_4 d l0 l1 (l2 + 1) h := by
  refine mX_to 2 (k' := 4) (ls' := [some (.int l0), some (.int l1), some (.int (l2 + 1))]) (st' := []) (h' := h) rfl ?_
  rfl
theorem S_X10_armsOf {h : MH} (L : lay h) (d : Nat) (a0 : Int32) : F_X10_armsOf (d + 1) a0 h = G_X10_armsOf_4 d a0 0 0 h := by
  refine mE_eq (q := (yX10_armsOf, cX10_armsOf, 3, (some .int), KX10_armsOf)) (C := KX10_armsOf) (ls := [some (.int a0), none, none]) rfl rfl rfl rfl ?_
  refine mX_to 4 (k' := 4) (ls' := [some (.int a0), some (.int 0), some (.int 0)]) (st' := []) (h' := h) rfl ?_
  rfl
theorem S_X10_slips_21 {h : MH} (L : lay h) (d : Nat) (l1 : Int32) (l2 : Int32) (l3 : Int32) (l4 : Int32) (l5 : Int32) (l6 : Int32) : G_X10_slips_21 d l1 l2 l3 l4 l5 l6 h = (if l6 < 512 then cI (F_X10_armsOf d l6 h) (fun x8 h7 => (if (jabs (l3 + (l1 * x8))) ≤ l4 then G_X10_slips_34 d l1 l2 l3 l4 l5 l6 h7 else G_X10_slips_34 d l1 l2 l3 l4 (l5 + 1) l6 h7)) else cI (F_X10_divisor d l5 512 h) (fun x10 h9 => (if l2 = 0 then G_X10_slips_45 d l1 l2 l3 l4 l5 x10 l5 h9 else G_X10_slips_45 d l1 l2 l3 l4 l5 x10 512 h9))) := by
  refine mX_to 2 (k' := 23) (ls' := [some (.ref 8), some (.int l1), some (.int l2), some (.int l3), some (.int l4), some (.int l5), some (.int l6)]) (st' := [.int 512, .int l6]) (h' := h) rfl ?_
  refine mX_br (t := 24) (f := 36) (ls' := [some (.ref 8), some (.int l1), some (.int l2), some (.int l3), some (.int l4), some (.int l5), some (.int l6)]) (st' := []) (h' := h) rfl ?_ ?_
  · refine mX_to 3 (k' := 27) (ls' := [some (.ref 8), some (.int l1), some (.int l2), some (.int l3), some (.int l4), some (.int l5), some (.int l6)]) (st' := [.int l6, .int l1, .int l3]) (h' := h) rfl ?_
    refine mX_cIe (o := F_X10_armsOf d l6 h) (k' := 28) (ls' := [some (.ref 8), some (.int l1), some (.int l2), some (.int l3), some (.int l4), some (.int l5), some (.int l6)]) (st' := [.int l1, .int l3]) rfl ?_
    intro x8 h7 eh7
    have L7 : lay h7 := lay_call d 296 [.int l6] h _ h7 rfl eh7 L
    refine mX_to 4 (k' := 32) (ls' := [some (.ref 8), some (.int l1), some (.int l2), some (.int l3), some (.int l4), some (.int l5), some (.int l6)]) (st' := [.int l4, .int (jabs (l3 + (l1 * x8)))]) (h' := h7) rfl ?_
    refine mX_br (t := 34) (f := 33) (ls' := [some (.ref 8), some (.int l1), some (.int l2), some (.int l3), some (.int l4), some (.int l5), some (.int l6)]) (st' := []) (h' := h7) rfl ?_ ?_
    · rfl
    · refine mX_to 1 (k' := 34) (ls' := [some (.ref 8), some (.int l1), some (.int l2), some (.int l3), some (.int l4), some (.int (l5 + 1)), some (.int l6)]) (st' := []) (h' := h7) rfl ?_
      rfl
  · refine mX_to 2 (k' := 38) (ls' := [some (.ref 8), some (.int l1), some (.int l2), some (.int l3), some (.int l4), some (.int l5), some (.int l6)]) (st' := [.int 512, .int l5]) (h' := h) rfl ?_
    refine mX_cIe (o := F_X10_divisor d l5 512 h) (k' := 39) (ls' := [some (.ref 8), some (.int l1), some (.int l2), some (.int l3), some (.int l4), some (.int l5), some (.int l6)]) (st' := []) rfl ?_
    intro x10 h9 eh9
    have L9 : lay h9 := lay_call d 291 [.int l5, .int 512] h _ h9 rfl eh9 L
    refine mX_to 2 (k' := 41) (ls' := [some (.ref 8), some (.int l1), some (.int l2), some (.int l3), some (.int l4), some (.int l5), some (.int x10)]) (st' := [.int l2]) (h' := h9) rfl ?_
    refine mX_br (t := 44) (f := 42) (ls' := [some (.ref 8), some (.int l1), some (.int l2), some (.int l3), some (.int l4), some (.int l5), some (.int x10)]) (st' := []) (h' := h9) rfl ?_ ?_
    · refine mX_to 1 (k' := 45) (ls' := [some (.ref 8), some (.int l1), some (.int l2), some (.int l3), some (.int l4), some (.int l5), some (.int x10)]) (st' := [.int l5]) (h' := h9) rfl ?_
      rfl
    · refine mX_to 2 (k' := 45) (ls' := [some (.ref 8), some (.int l1), some (.int l2), some (.int l3), some (.int l4), some (.int l5), some (.int x10)]) (st' := [.int 512]) (h' := h9) rfl ?_
      rfl
theorem S_X10_slips_34 {h : MH} (L : lay h) (d : Nat) (l1 : Int32) (l2 : Int32) (l3 : Int32) (l4 : Int32) (l5 : Int32) (l6 : Int32) : G_X10_slips_34 d l1 l2 l3 l4 l5 l6 h = G_X10_slips_21 d l1 l2 l3 l4 l5 (l6 + 1) h := by
  refine mX_to 2 (k' := 21) (ls' := [some (.ref 8), some (.int l1), some (.int l2), some (.int l3), some (.int l4), some (.int l5), some (.int (l6 + 1))]) (st' := []) (h' := h) rfl ?_
  rfl
theorem S_X10_slips_45 {h : MH} (L : lay h) (d : Nat) (l1 : Int32) (l2 : Int32) (l3 : Int32) (l4 : Int32) (l5 : Int32) (l6 : Int32) (s0 : Int32) : G_X10_slips_45 d l1 l2 l3 l4 l5 l6 s0 h = ck (¬ l6 = 0) (some (.int (s0 / l6), h)) := by
  refine mX_to 1 (k' := 46) (ls' := [some (.ref 8), some (.int l1), some (.int l2), some (.int l3), some (.int l4), some (.int l5), some (.int l6)]) (st' := [.int l6, .int s0]) (h' := h) rfl ?_
  refine mX_ck (k' := 47) (ls' := [some (.ref 8), some (.int l1), some (.int l2), some (.int l3), some (.int l4), some (.int l5), some (.int l6)]) (st' := [.int (s0 / l6)]) (h' := h) rfl ?_
  exact mX_reti rfl
theorem S_X10_slips {h : MH} (L : lay h) (d : Nat) (a1 : Int32) (a2 : Int32) : F_X10_slips (d + 1) a1 a2 h = cI (F_X10_within d a1 1 9 h) (fun x2 h1 => (if x2 = 0 then some (.int (-1), h1) else cI (F_X9_tipNow d 10 h1) (fun x4 h3 => cI (F_X9_tipsNow d 10 h3) (fun x6 h5 => G_X10_slips_21 d a1 a2 x4 x6 0 0 h5)))) := by
  refine mE_eq (q := (yX10_slips, cX10_slips, 7, (some .int), KX10_slips)) (C := KX10_slips) (ls := [some (.ref 8), some (.int a1), some (.int a2), none, none, none, none]) rfl rfl rfl rfl ?_
  refine mX_to 3 (k' := 3) (ls' := [some (.ref 8), some (.int a1), some (.int a2), none, none, none, none]) (st' := [.int 9, .int 1, .int a1]) (h' := h) rfl ?_
  refine mX_cIe (o := F_X10_within d a1 1 9 h) (k' := 4) (ls' := [some (.ref 8), some (.int a1), some (.int a2), none, none, none, none]) (st' := []) rfl ?_
  intro x2 h1 eh1
  have L1 : lay h1 := lay_call d 11 [.int a1, .int 1, .int 9] h _ h1 rfl eh1 L
  refine mX_br (t := 5) (f := 7) (ls' := [some (.ref 8), some (.int a1), some (.int a2), none, none, none, none]) (st' := []) (h' := h1) rfl ?_ ?_
  · refine mX_to 1 (k' := 6) (ls' := [some (.ref 8), some (.int a1), some (.int a2), none, none, none, none]) (st' := [.int (-1)]) (h' := h1) rfl ?_
    exact mX_reti rfl
  · refine mX_to 1 (k' := 8) (ls' := [some (.ref 8), some (.int a1), some (.int a2), none, none, none, none]) (st' := [.ref 8]) (h' := h1) rfl ?_
    refine mX_ckv (v := .ref (gR h1 8 0)) (v' := .ref 9) (k' := 9) (ls' := [some (.ref 8), some (.int a1), some (.int a2), none, none, none, none]) (st' := []) (h' := h1) (k_8 L1) (congrArg Value.ref (r_8_0 L1)) rfl ?_
    refine mX_ckv (v := .ref (gR h1 9 0)) (v' := .ref 10) (k' := 10) (ls' := [some (.ref 8), some (.int a1), some (.int a2), none, none, none, none]) (st' := []) (h' := h1) (k_9 L1) (congrArg Value.ref (r_9_0 L1)) rfl ?_
    refine mX_ckct (m := mcl (mE mtab d 139 [.ref 10] h1) 1 11 [some (.ref 8), some (.int a1), some (.int a2), none, none, none, none] []) (k_10 L1) rfl ?_
    refine mk_cIe (o := F_X9_tipNow d 10 h1) ?_
    intro x4 h3 eh3
    have L3 : lay h3 := lay_call d 139 [.ref 10] h1 _ h3 rfl eh3 L1
    refine mX_to 2 (k' := 13) (ls' := [some (.ref 8), some (.int a1), some (.int a2), some (.int x4), none, none, none]) (st' := [.ref 8]) (h' := h3) rfl ?_
    refine mX_ckv (v := .ref (gR h3 8 0)) (v' := .ref 9) (k' := 14) (ls' := [some (.ref 8), some (.int a1), some (.int a2), some (.int x4), none, none, none]) (st' := []) (h' := h3) (k_8 L3) (congrArg Value.ref (r_8_0 L3)) rfl ?_
    refine mX_ckv (v := .ref (gR h3 9 0)) (v' := .ref 10) (k' := 15) (ls' := [some (.ref 8), some (.int a1), some (.int a2), some (.int x4), none, none, none]) (st' := []) (h' := h3) (k_9 L3) (congrArg Value.ref (r_9_0 L3)) rfl ?_
    refine mX_ckct (m := mcl (mE mtab d 145 [.ref 10] h3) 1 16 [some (.ref 8), some (.int a1), some (.int a2), some (.int x4), none, none, none] []) (k_10 L3) rfl ?_
    refine mk_cIe (o := F_X9_tipsNow d 10 h3) ?_
    intro x6 h5 eh5
    have L5 : lay h5 := lay_call d 145 [.ref 10] h3 _ h5 rfl eh5 L3
    refine mX_to 5 (k' := 21) (ls' := [some (.ref 8), some (.int a1), some (.int a2), some (.int x4), some (.int x6), some (.int 0), some (.int 0)]) (st' := []) (h' := h5) rfl ?_
    rfl
theorem S_X11_slips_14 {h : MH} (L : lay h) (d : Nat) (l1 : Int32) (l2 : Int32) (l3 : Int32) (l4 : Int32) (l5 : Int32) (o6 : Option Value) (o7 : Option Value) : G_X11_slips_14 d l1 l2 l3 l4 l5 o6 o7 h = (if l5 < 512 then cI (F_X11_tipNow d h) (fun x6 h5 => G_X11_slips_22 d l1 l2 l3 l4 l5 x6 0 h5) else (if l2 = 0 then G_X11_slips_58 d l1 l2 l3 l4 l5 (o6) (o7) l4 h else G_X11_slips_58 d l1 l2 l3 l4 l5 (o6) (o7) 512 h)) := by
  refine mX_to 2 (k' := 16) (ls' := [some (.ref 67), some (.int l1), some (.int l2), some (.int l3), some (.int l4), some (.int l5), o6, o7]) (st' := [.int 512, .int l5]) (h' := h) rfl ?_
  refine mX_br (t := 17) (f := 53) (ls' := [some (.ref 67), some (.int l1), some (.int l2), some (.int l3), some (.int l4), some (.int l5), o6, o7]) (st' := []) (h' := h) rfl ?_ ?_
  · refine mX_to 1 (k' := 18) (ls' := [some (.ref 67), some (.int l1), some (.int l2), some (.int l3), some (.int l4), some (.int l5), o6, o7]) (st' := [.ref 67]) (h' := h) rfl ?_
    refine mX_ckct (m := mcl (mE mtab d 156 [.ref 67] h) 1 19 [some (.ref 67), some (.int l1), some (.int l2), some (.int l3), some (.int l4), some (.int l5), o6, o7] []) (k_67 L) rfl ?_
    refine mk_cIe (o := F_X11_tipNow d h) ?_
    intro x6 h5 eh5
    have L5 : lay h5 := lay_call d 156 [.ref 67] h _ h5 rfl eh5 L
    refine mX_to 3 (k' := 22) (ls' := [some (.ref 67), some (.int l1), some (.int l2), some (.int l3), some (.int l4), some (.int l5), some (.int x6), some (.int 0)]) (st' := []) (h' := h5) rfl ?_
    rfl
  · refine mX_to 1 (k' := 54) (ls' := [some (.ref 67), some (.int l1), some (.int l2), some (.int l3), some (.int l4), some (.int l5), o6, o7]) (st' := [.int l2]) (h' := h) rfl ?_
    refine mX_br (t := 57) (f := 55) (ls' := [some (.ref 67), some (.int l1), some (.int l2), some (.int l3), some (.int l4), some (.int l5), o6, o7]) (st' := []) (h' := h) rfl ?_ ?_
    · refine mX_to 1 (k' := 58) (ls' := [some (.ref 67), some (.int l1), some (.int l2), some (.int l3), some (.int l4), some (.int l5), o6, o7]) (st' := [.int l4]) (h' := h) rfl ?_
      rfl
    · refine mX_to 2 (k' := 58) (ls' := [some (.ref 67), some (.int l1), some (.int l2), some (.int l3), some (.int l4), some (.int l5), o6, o7]) (st' := [.int 512]) (h' := h) rfl ?_
      rfl
theorem S_X11_slips_22 {h : MH} (L : lay h) (d : Nat) (l1 : Int32) (l2 : Int32) (l3 : Int32) (l4 : Int32) (l5 : Int32) (l6 : Int32) (l7 : Int32) : G_X11_slips_22 d l1 l2 l3 l4 l5 l6 l7 h = (if l7 < 9 then cI (F_X11_has d l5 l7 h) (fun x8 h7 => (if x8 = 0 then G_X11_slips_37 d l1 l2 l3 l4 l5 l6 l7 0 l6 h7 else G_X11_slips_37 d l1 l2 l3 l4 l5 l6 l7 (l1 * (l7 - 4)) l6 h7)) else cI (F_X11_size d l6 h) (fun x10 h9 => (if x10 ≤ l3 then G_X11_slips_49 d l1 l2 l3 l4 l5 l6 l7 0 l4 h9 else G_X11_slips_49 d l1 l2 l3 l4 l5 l6 l7 1 l4 h9))) := by
  refine mX_to 2 (k' := 24) (ls' := [some (.ref 67), some (.int l1), some (.int l2), some (.int l3), some (.int l4), some (.int l5), some (.int l6), some (.int l7)]) (st' := [.int 9, .int l7]) (h' := h) rfl ?_
  refine mX_br (t := 25) (f := 41) (ls' := [some (.ref 67), some (.int l1), some (.int l2), some (.int l3), some (.int l4), some (.int l5), some (.int l6), some (.int l7)]) (st' := []) (h' := h) rfl ?_ ?_
  · refine mX_to 3 (k' := 28) (ls' := [some (.ref 67), some (.int l1), some (.int l2), some (.int l3), some (.int l4), some (.int l5), some (.int l6), some (.int l7)]) (st' := [.int l7, .int l5, .int l6]) (h' := h) rfl ?_
    refine mX_cIe (o := F_X11_has d l5 l7 h) (k' := 29) (ls' := [some (.ref 67), some (.int l1), some (.int l2), some (.int l3), some (.int l4), some (.int l5), some (.int l6), some (.int l7)]) (st' := [.int l6]) rfl ?_
    intro x8 h7 eh7
    have L7 : lay h7 := lay_call d 108 [.int l5, .int l7] h _ h7 rfl eh7 L
    refine mX_br (t := 36) (f := 30) (ls' := [some (.ref 67), some (.int l1), some (.int l2), some (.int l3), some (.int l4), some (.int l5), some (.int l6), some (.int l7)]) (st' := [.int l6]) (h' := h7) rfl ?_ ?_
    · refine mX_to 1 (k' := 37) (ls' := [some (.ref 67), some (.int l1), some (.int l2), some (.int l3), some (.int l4), some (.int l5), some (.int l6), some (.int l7)]) (st' := [.int 0, .int l6]) (h' := h7) rfl ?_
      rfl
    · refine mX_to 6 (k' := 37) (ls' := [some (.ref 67), some (.int l1), some (.int l2), some (.int l3), some (.int l4), some (.int l5), some (.int l6), some (.int l7)]) (st' := [.int (l1 * (l7 - 4)), .int l6]) (h' := h7) rfl ?_
      rfl
  · refine mX_to 2 (k' := 43) (ls' := [some (.ref 67), some (.int l1), some (.int l2), some (.int l3), some (.int l4), some (.int l5), some (.int l6), some (.int l7)]) (st' := [.int l6, .int l4]) (h' := h) rfl ?_
    refine mX_cIe (o := F_X11_size d l6 h) (k' := 44) (ls' := [some (.ref 67), some (.int l1), some (.int l2), some (.int l3), some (.int l4), some (.int l5), some (.int l6), some (.int l7)]) (st' := [.int l4]) rfl ?_
    intro x10 h9 eh9
    have L9 : lay h9 := lay_call d 157 [.int l6] h _ h9 rfl eh9 L
    refine mX_to 1 (k' := 45) (ls' := [some (.ref 67), some (.int l1), some (.int l2), some (.int l3), some (.int l4), some (.int l5), some (.int l6), some (.int l7)]) (st' := [.int l3, .int x10, .int l4]) (h' := h9) rfl ?_
    refine mX_br (t := 48) (f := 46) (ls' := [some (.ref 67), some (.int l1), some (.int l2), some (.int l3), some (.int l4), some (.int l5), some (.int l6), some (.int l7)]) (st' := [.int l4]) (h' := h9) rfl ?_ ?_
    · refine mX_to 1 (k' := 49) (ls' := [some (.ref 67), some (.int l1), some (.int l2), some (.int l3), some (.int l4), some (.int l5), some (.int l6), some (.int l7)]) (st' := [.int 0, .int l4]) (h' := h9) rfl ?_
      rfl
    · refine mX_to 2 (k' := 49) (ls' := [some (.ref 67), some (.int l1), some (.int l2), some (.int l3), some (.int l4), some (.int l5), some (.int l6), some (.int l7)]) (st' := [.int 1, .int l4]) (h' := h9) rfl ?_
      rfl
theorem S_X11_slips_58 {h : MH} (L : lay h) (d : Nat) (l1 : Int32) (l2 : Int32) (l3 : Int32) (l4 : Int32) (l5 : Int32) (o6 : Option Value) (o7 : Option Value) (s0 : Int32) : G_X11_slips_58 d l1 l2 l3 l4 l5 o6 o7 s0 h = cI (F_X11_divisor d l4 512 h) (fun x12 h11 => ck (¬ x12 = 0) (some (.int (s0 / x12), h11))) := by
  refine mX_to 2 (k' := 60) (ls' := [some (.ref 67), some (.int l1), some (.int l2), some (.int l3), some (.int l4), some (.int l5), o6, o7]) (st' := [.int 512, .int l4, .int s0]) (h' := h) rfl ?_
  refine mX_cIe (o := F_X11_divisor d l4 512 h) (k' := 61) (ls' := [some (.ref 67), some (.int l1), some (.int l2), some (.int l3), some (.int l4), some (.int l5), o6, o7]) (st' := [.int s0]) rfl ?_
  intro x12 h11 eh11
  have L11 : lay h11 := lay_call d 294 [.int l4, .int 512] h _ h11 rfl eh11 L
  refine mX_ck (k' := 62) (ls' := [some (.ref 67), some (.int l1), some (.int l2), some (.int l3), some (.int l4), some (.int l5), o6, o7]) (st' := [.int (s0 / x12)]) (h' := h11) rfl ?_
  exact mX_reti rfl
theorem S_X11_slips_37 {h : MH} (L : lay h) (d : Nat) (l1 : Int32) (l2 : Int32) (l3 : Int32) (l4 : Int32) (l5 : Int32) (l6 : Int32) (l7 : Int32) (s0 : Int32) (s1 : Int32) : G_X11_slips_37 d l1 l2 l3 l4 l5 l6 l7 s0 s1 h = G_X11_slips_22 d l1 l2 l3 l4 l5 (s1 + s0) (l7 + 1) h := by
  refine mX_to 4 (k' := 22) (ls' := [some (.ref 67), some (.int l1), some (.int l2), some (.int l3), some (.int l4), some (.int l5), some (.int (s1 + s0)), some (.int (l7 + 1))]) (st' := []) (h' := h) rfl ?_
  rfl
theorem S_X11_slips_49 {h : MH} (L : lay h) (d : Nat) (l1 : Int32) (l2 : Int32) (l3 : Int32) (l4 : Int32) (l5 : Int32) (l6 : Int32) (l7 : Int32) (s0 : Int32) (s1 : Int32) : G_X11_slips_49 d l1 l2 l3 l4 l5 l6 l7 s0 s1 h = G_X11_slips_14 d l1 l2 l3 (s1 + s0) (l5 + 1) (some (.int l6)) (some (.int l7)) h := by
  refine mX_to 4 (k' := 14) (ls' := [some (.ref 67), some (.int l1), some (.int l2), some (.int l3), some (.int (s1 + s0)), some (.int (l5 + 1)), some (.int l6), some (.int l7)]) (st' := []) (h' := h) rfl ?_
  rfl
theorem S_X11_slips {h : MH} (L : lay h) (d : Nat) (a1 : Int32) (a2 : Int32) : F_X11_slips (d + 1) a1 a2 h = cI (F_X11_isIn d a1 1 9 h) (fun x2 h1 => (if x2 = 0 then some (.int (-1), h1) else cI (F_X11_tipsNow d h1) (fun x4 h3 => G_X11_slips_14 d a1 a2 x4 0 0 none none h3))) := by
  refine mE_eq (q := (yX11_slips, cX11_slips, 8, (some .int), KX11_slips)) (C := KX11_slips) (ls := [some (.ref 67), some (.int a1), some (.int a2), none, none, none, none, none]) rfl rfl rfl rfl ?_
  refine mX_to 3 (k' := 3) (ls' := [some (.ref 67), some (.int a1), some (.int a2), none, none, none, none, none]) (st' := [.int 9, .int 1, .int a1]) (h' := h) rfl ?_
  refine mX_cIe (o := F_X11_isIn d a1 1 9 h) (k' := 4) (ls' := [some (.ref 67), some (.int a1), some (.int a2), none, none, none, none, none]) (st' := []) rfl ?_
  intro x2 h1 eh1
  have L1 : lay h1 := lay_call d 14 [.int a1, .int 1, .int 9] h _ h1 rfl eh1 L
  refine mX_br (t := 5) (f := 7) (ls' := [some (.ref 67), some (.int a1), some (.int a2), none, none, none, none, none]) (st' := []) (h' := h1) rfl ?_ ?_
  · refine mX_to 1 (k' := 6) (ls' := [some (.ref 67), some (.int a1), some (.int a2), none, none, none, none, none]) (st' := [.int (-1)]) (h' := h1) rfl ?_
    exact mX_reti rfl
  · refine mX_to 1 (k' := 8) (ls' := [some (.ref 67), some (.int a1), some (.int a2), none, none, none, none, none]) (st' := [.ref 67]) (h' := h1) rfl ?_
    refine mX_ckct (m := mcl (mE mtab d 172 [.ref 67] h1) 1 9 [some (.ref 67), some (.int a1), some (.int a2), none, none, none, none, none] []) (k_67 L1) rfl ?_
    refine mk_cIe (o := F_X11_tipsNow d h1) ?_
    intro x4 h3 eh3
    have L3 : lay h3 := lay_call d 172 [.ref 67] h1 _ h3 rfl eh3 L1
    refine mX_to 5 (k' := 14) (ls' := [some (.ref 67), some (.int a1), some (.int a2), some (.int x4), some (.int 0), some (.int 0), none, none]) (st' := []) (h' := h3) rfl ?_
    rfl
theorem S_X9_weightOf_4 {h : MH} (L : lay h) (d : Nat) (q : Nat) (T : tAt q) (l1 : Int32) (l2 : Int32) (l3 : Int32) : G_X9_weightOf_4 d q l1 l2 l3 h = (if l3 < (gI h q 0) then cI (F_X10_holds d l1 l3 h) (fun x2 h1 => (if x2 = 0 then G_X9_weightOf_19 d q l1 l2 l3 h1 else ck (ib l3 4) (lt_ (l2 + (gI h1 (q + 1) (ix l3))) fun v3 => G_X9_weightOf_19 d q l1 v3 l3 h1))) else some (.int l2, h)) := by
  refine mX_to 2 (k' := 6) (ls' := [some (.ref q), some (.int l1), some (.int l2), some (.int l3)]) (st' := [.ref q, .int l3]) (h' := h) rfl ?_
  refine mX_ckv (v := .int (gI h q 0)) (v' := .int (gI h q 0)) (k' := 7) (ls' := [some (.ref q), some (.int l1), some (.int l2), some (.int l3)]) (st' := [.int l3]) (h' := h) (kT0 L T) rfl rfl ?_
  refine mX_br (t := 8) (f := 21) (ls' := [some (.ref q), some (.int l1), some (.int l2), some (.int l3)]) (st' := []) (h' := h) rfl ?_ ?_
  · refine mX_to 2 (k' := 10) (ls' := [some (.ref q), some (.int l1), some (.int l2), some (.int l3)]) (st' := [.int l3, .int l1]) (h' := h) rfl ?_
    refine mX_cIe (o := F_X10_holds d l1 l3 h) (k' := 11) (ls' := [some (.ref q), some (.int l1), some (.int l2), some (.int l3)]) (st' := []) rfl ?_
    intro x2 h1 eh1
    have L1 : lay h1 := lay_call d 257 [.int l1, .int l3] h _ h1 rfl eh1 L
    refine mX_br (t := 19) (f := 12) (ls' := [some (.ref q), some (.int l1), some (.int l2), some (.int l3)]) (st' := []) (h' := h1) rfl ?_ ?_
    · rfl
    · refine mX_to 2 (k' := 14) (ls' := [some (.ref q), some (.int l1), some (.int l2), some (.int l3)]) (st' := [.ref q, .int l2]) (h' := h1) rfl ?_
      refine mX_ckv (v := .ref (gR h1 q 1)) (v' := .ref (q + 1)) (k' := 15) (ls' := [some (.ref q), some (.int l1), some (.int l2), some (.int l3)]) (st' := [.int l2]) (h' := h1) (kT0 L1 T) (congrArg Value.ref (rT1 L1 T)) rfl ?_
      refine mX_to 1 (k' := 16) (ls' := [some (.ref q), some (.int l1), some (.int l2), some (.int l3)]) (st' := [.int l3, .ref (q + 1), .int l2]) (h' := h1) rfl ?_
      refine mX_ckw (v := .int (gI h1 (q + 1) (ix l3))) (v' := .int (gI h1 (q + 1) (ix l3))) (k' := 17) (ls' := [some (.ref q), some (.int l1), some (.int l2), some (.int l3)]) (st' := [.int l2]) (h' := h1) (ckA1 (kT1 L1 T) (nT1 L1 T)) rfl rfl fun c4 => ?_
      refine mX_to 1 (k' := 18) (ls' := [some (.ref q), some (.int l1), some (.int l2), some (.int l3)]) (st' := [.int (l2 + (gI h1 (q + 1) (ix l3)))]) (h' := h1) rfl ?_
      refine lt_gen (X := fun v3 : Int32 => mX (mE mtab d) KX9_weightOf 18 [some (.ref q), some (.int l1), some (.int l2), some (.int l3)] [.int v3] h1) fun v3 => ?_
      refine mX_to 1 (k' := 19) (ls' := [some (.ref q), some (.int l1), some (.int v3), some (.int l3)]) (st' := []) (h' := h1) rfl ?_
      rfl
  · refine mX_to 1 (k' := 22) (ls' := [some (.ref q), some (.int l1), some (.int l2), some (.int l3)]) (st' := [.int l2]) (h' := h) rfl ?_
    exact mX_reti rfl
theorem S_X9_weightOf_19 {h : MH} (L : lay h) (d : Nat) (q : Nat) (T : tAt q) (l1 : Int32) (l2 : Int32) (l3 : Int32) : G_X9_weightOf_19 d q l1 l2 l3 h = G_X9_weightOf_4 d q l1 l2 (l3 + 1) h := by
  refine mX_to 2 (k' := 4) (ls' := [some (.ref q), some (.int l1), some (.int l2), some (.int (l3 + 1))]) (st' := []) (h' := h) rfl ?_
  rfl
theorem S_X9_weightOf {h : MH} (L : lay h) (d : Nat) (q : Nat) (a1 : Int32) (T : tAt q) : F_X9_weightOf (d + 1) q a1 h = G_X9_weightOf_4 d q a1 0 0 h := by
  refine mE_eq (q := (yX9_weightOf, cX9_weightOf, 4, (some .int), KX9_weightOf)) (C := KX9_weightOf) (ls := [some (.ref q), some (.int a1), none, none]) rfl rfl rfl rfl ?_
  refine mX_to 4 (k' := 4) (ls' := [some (.ref q), some (.int a1), some (.int 0), some (.int 0)]) (st' := []) (h' := h) rfl ?_
  rfl
theorem S_X10_halves_28 {h : MH} (L : lay h) (d : Nat) (l1 : Int32) (l2 : Int32) (l3 : Int32) (l4 : Int32) (l5 : Int32) (l6 : Int32) (o7 : Option Value) : G_X10_halves_28 d l1 l2 l3 l4 l5 l6 o7 h = (if l6 ≤ l2 then cI (F_X9_weightOf d 10 l6 h) (fun x7 h6 => lt_ (jabs (l3 - (2 * x7))) fun v8 => (if v8 < l4 then G_X10_halves_49 d l1 l2 l3 v8 l6 l6 v8 h6 else G_X10_halves_49 d l1 l2 l3 l4 l5 l6 v8 h6)) else (if l1 = 0 then some (.int l4, h) else some (.int l5, h))) := by
  refine mX_to 2 (k' := 30) (ls' := [some (.ref 8), some (.int l1), some (.int l2), some (.int l3), some (.int l4), some (.int l5), some (.int l6), o7]) (st' := [.int l2, .int l6]) (h' := h) rfl ?_
  refine mX_br (t := 31) (f := 51) (ls' := [some (.ref 8), some (.int l1), some (.int l2), some (.int l3), some (.int l4), some (.int l5), some (.int l6), o7]) (st' := []) (h' := h) rfl ?_ ?_
  · refine mX_to 3 (k' := 34) (ls' := [some (.ref 8), some (.int l1), some (.int l2), some (.int l3), some (.int l4), some (.int l5), some (.int l6), o7]) (st' := [.ref 8, .int 2, .int l3]) (h' := h) rfl ?_
    refine mX_ckv (v := .ref (gR h 8 0)) (v' := .ref 9) (k' := 35) (ls' := [some (.ref 8), some (.int l1), some (.int l2), some (.int l3), some (.int l4), some (.int l5), some (.int l6), o7]) (st' := [.int 2, .int l3]) (h' := h) (k_8 L) (congrArg Value.ref (r_8_0 L)) rfl ?_
    refine mX_ckv (v := .ref (gR h 9 0)) (v' := .ref 10) (k' := 36) (ls' := [some (.ref 8), some (.int l1), some (.int l2), some (.int l3), some (.int l4), some (.int l5), some (.int l6), o7]) (st' := [.int 2, .int l3]) (h' := h) (k_9 L) (congrArg Value.ref (r_9_0 L)) rfl ?_
    refine mX_to 1 (k' := 37) (ls' := [some (.ref 8), some (.int l1), some (.int l2), some (.int l3), some (.int l4), some (.int l5), some (.int l6), o7]) (st' := [.int l6, .ref 10, .int 2, .int l3]) (h' := h) rfl ?_
    refine mX_ckct (m := mcl (mE mtab d 299 [.ref 10, .int l6] h) 1 38 [some (.ref 8), some (.int l1), some (.int l2), some (.int l3), some (.int l4), some (.int l5), some (.int l6), o7] [.int 2, .int l3]) (k_10 L) rfl ?_
    refine mk_cIe (o := F_X9_weightOf d 10 l6 h) ?_
    intro x7 h6 eh6
    have L6 : lay h6 := lay_call d 299 [.ref 10, .int l6] h _ h6 rfl eh6 L
    refine mX_to 3 (k' := 41) (ls' := [some (.ref 8), some (.int l1), some (.int l2), some (.int l3), some (.int l4), some (.int l5), some (.int l6), o7]) (st' := [.int (jabs (l3 - (2 * x7)))]) (h' := h6) rfl ?_
    refine lt_gen (X := fun v8 : Int32 => mX (mE mtab d) KX10_halves 41 [some (.ref 8), some (.int l1), some (.int l2), some (.int l3), some (.int l4), some (.int l5), some (.int l6), o7] [.int v8] h6) fun v8 => ?_
    refine mX_to 3 (k' := 44) (ls' := [some (.ref 8), some (.int l1), some (.int l2), some (.int l3), some (.int l4), some (.int l5), some (.int l6), some (.int v8)]) (st' := [.int l4, .int v8]) (h' := h6) rfl ?_
    refine mX_br (t := 45) (f := 49) (ls' := [some (.ref 8), some (.int l1), some (.int l2), some (.int l3), some (.int l4), some (.int l5), some (.int l6), some (.int v8)]) (st' := []) (h' := h6) rfl ?_ ?_
    · refine mX_to 4 (k' := 49) (ls' := [some (.ref 8), some (.int l1), some (.int l2), some (.int l3), some (.int v8), some (.int l6), some (.int l6), some (.int v8)]) (st' := []) (h' := h6) rfl ?_
      rfl
    · rfl
  · refine mX_to 1 (k' := 52) (ls' := [some (.ref 8), some (.int l1), some (.int l2), some (.int l3), some (.int l4), some (.int l5), some (.int l6), o7]) (st' := [.int l1]) (h' := h) rfl ?_
    refine mX_br (t := 53) (f := 55) (ls' := [some (.ref 8), some (.int l1), some (.int l2), some (.int l3), some (.int l4), some (.int l5), some (.int l6), o7]) (st' := []) (h' := h) rfl ?_ ?_
    · refine mX_to 2 (k' := 56) (ls' := [some (.ref 8), some (.int l1), some (.int l2), some (.int l3), some (.int l4), some (.int l5), some (.int l6), o7]) (st' := [.int l4]) (h' := h) rfl ?_
      exact mX_reti rfl
    · refine mX_to 1 (k' := 56) (ls' := [some (.ref 8), some (.int l1), some (.int l2), some (.int l3), some (.int l4), some (.int l5), some (.int l6), o7]) (st' := [.int l5]) (h' := h) rfl ?_
      exact mX_reti rfl
theorem S_X10_halves_49 {h : MH} (L : lay h) (d : Nat) (l1 : Int32) (l2 : Int32) (l3 : Int32) (l4 : Int32) (l5 : Int32) (l6 : Int32) (l7 : Int32) : G_X10_halves_49 d l1 l2 l3 l4 l5 l6 l7 h = G_X10_halves_28 d l1 l2 l3 l4 l5 (l6 + 1) (some (.int l7)) h := by
  refine mX_to 2 (k' := 28) (ls' := [some (.ref 8), some (.int l1), some (.int l2), some (.int l3), some (.int l4), some (.int l5), some (.int (l6 + 1)), some (.int l7)]) (st' := []) (h' := h) rfl ?_
  rfl
theorem S_X10_halves {h : MH} (L : lay h) (d : Nat) (a1 : Int32) : F_X10_halves (d + 1) a1 h = cI (F_X10_within d a1 0 1 h) (fun x2 h1 => (if x2 = 0 then some (.int (-1), h1) else lt_ ((1 <<< ((gI h1 10 0) &&& 31)) - 1) fun v3 => cI (F_X9_weightOf d 10 v3 h1) (fun x5 h4 => G_X10_halves_28 d a1 v3 x5 x5 0 0 none h4))) := by
  refine mE_eq (q := (yX10_halves, cX10_halves, 8, (some .int), KX10_halves)) (C := KX10_halves) (ls := [some (.ref 8), some (.int a1), none, none, none, none, none, none]) rfl rfl rfl rfl ?_
  refine mX_to 3 (k' := 3) (ls' := [some (.ref 8), some (.int a1), none, none, none, none, none, none]) (st' := [.int 1, .int 0, .int a1]) (h' := h) rfl ?_
  refine mX_cIe (o := F_X10_within d a1 0 1 h) (k' := 4) (ls' := [some (.ref 8), some (.int a1), none, none, none, none, none, none]) (st' := []) rfl ?_
  intro x2 h1 eh1
  have L1 : lay h1 := lay_call d 11 [.int a1, .int 0, .int 1] h _ h1 rfl eh1 L
  refine mX_br (t := 5) (f := 7) (ls' := [some (.ref 8), some (.int a1), none, none, none, none, none, none]) (st' := []) (h' := h1) rfl ?_ ?_
  · refine mX_to 1 (k' := 6) (ls' := [some (.ref 8), some (.int a1), none, none, none, none, none, none]) (st' := [.int (-1)]) (h' := h1) rfl ?_
    exact mX_reti rfl
  · refine mX_to 2 (k' := 9) (ls' := [some (.ref 8), some (.int a1), none, none, none, none, none, none]) (st' := [.ref 8, .int 1]) (h' := h1) rfl ?_
    refine mX_ckv (v := .ref (gR h1 8 0)) (v' := .ref 9) (k' := 10) (ls' := [some (.ref 8), some (.int a1), none, none, none, none, none, none]) (st' := [.int 1]) (h' := h1) (k_8 L1) (congrArg Value.ref (r_8_0 L1)) rfl ?_
    refine mX_ckv (v := .ref (gR h1 9 0)) (v' := .ref 10) (k' := 11) (ls' := [some (.ref 8), some (.int a1), none, none, none, none, none, none]) (st' := [.int 1]) (h' := h1) (k_9 L1) (congrArg Value.ref (r_9_0 L1)) rfl ?_
    refine mX_ckv (v := .int (gI h1 10 0)) (v' := .int (gI h1 10 0)) (k' := 12) (ls' := [some (.ref 8), some (.int a1), none, none, none, none, none, none]) (st' := [.int 1]) (h' := h1) (k_10 L1) rfl rfl ?_
    refine mX_to 3 (k' := 15) (ls' := [some (.ref 8), some (.int a1), none, none, none, none, none, none]) (st' := [.int ((1 <<< ((gI h1 10 0) &&& 31)) - 1)]) (h' := h1) rfl ?_
    refine lt_gen (X := fun v3 : Int32 => mX (mE mtab d) KX10_halves 15 [some (.ref 8), some (.int a1), none, none, none, none, none, none] [.int v3] h1) fun v3 => ?_
    refine mX_to 2 (k' := 17) (ls' := [some (.ref 8), some (.int a1), some (.int v3), none, none, none, none, none]) (st' := [.ref 8]) (h' := h1) rfl ?_
    refine mX_ckv (v := .ref (gR h1 8 0)) (v' := .ref 9) (k' := 18) (ls' := [some (.ref 8), some (.int a1), some (.int v3), none, none, none, none, none]) (st' := []) (h' := h1) (k_8 L1) (congrArg Value.ref (r_8_0 L1)) rfl ?_
    refine mX_ckv (v := .ref (gR h1 9 0)) (v' := .ref 10) (k' := 19) (ls' := [some (.ref 8), some (.int a1), some (.int v3), none, none, none, none, none]) (st' := []) (h' := h1) (k_9 L1) (congrArg Value.ref (r_9_0 L1)) rfl ?_
    refine mX_to 1 (k' := 20) (ls' := [some (.ref 8), some (.int a1), some (.int v3), none, none, none, none, none]) (st' := [.int v3, .ref 10]) (h' := h1) rfl ?_
    refine mX_ckct (m := mcl (mE mtab d 299 [.ref 10, .int v3] h1) 1 21 [some (.ref 8), some (.int a1), some (.int v3), none, none, none, none, none] []) (k_10 L1) rfl ?_
    refine mk_cIe (o := F_X9_weightOf d 10 v3 h1) ?_
    intro x5 h4 eh4
    have L4 : lay h4 := lay_call d 299 [.ref 10, .int v3] h1 _ h4 rfl eh4 L1
    refine mX_to 7 (k' := 28) (ls' := [some (.ref 8), some (.int a1), some (.int v3), some (.int x5), some (.int x5), some (.int 0), some (.int 0), none]) (st' := []) (h' := h4) rfl ?_
    rfl
theorem S_X11_moreOf {h : MH} (L : lay h) (d : Nat) (a1 : Int32) : F_X11_moreOf (d + 1) a1 h = cI (F_X11_weightOf d a1 h) (fun x2 h1 => cI (F_X11_everyone d h1) (fun x4 h3 => cI (F_X11_weightOf d x4 h3) (fun x6 h5 => cI (F_X11_size d ((2 * x2) - x6) h5) (fun x8 h7 => some (.int x8, h7))))) := by
  refine mE_eq (q := (yX11_moreOf, cX11_moreOf, 2, (some .int), KX11_moreOf)) (C := KX11_moreOf) (ls := [some (.ref 67), some (.int a1)]) rfl rfl rfl rfl ?_
  refine mX_to 3 (k' := 3) (ls' := [some (.ref 67), some (.int a1)]) (st' := [.int a1, .ref 67, .int 2]) (h' := h) rfl ?_
  refine mX_ckct (m := mcl (mE mtab d 158 [.ref 67, .int a1] h) 1 4 [some (.ref 67), some (.int a1)] [.int 2]) (k_67 L) rfl ?_
  refine mk_cIe (o := F_X11_weightOf d a1 h) ?_
  intro x2 h1 eh1
  have L1 : lay h1 := lay_call d 158 [.ref 67, .int a1] h _ h1 rfl eh1 L
  refine mX_to 3 (k' := 7) (ls' := [some (.ref 67), some (.int a1)]) (st' := [.ref 67, .ref 67, .int (2 * x2)]) (h' := h1) rfl ?_
  refine mX_ckct (m := mcl (mE mtab d 154 [.ref 67] h1) 1 8 [some (.ref 67), some (.int a1)] [.ref 67, .int (2 * x2)]) (k_67 L1) rfl ?_
  refine mk_cIe (o := F_X11_everyone d h1) ?_
  intro x4 h3 eh3
  have L3 : lay h3 := lay_call d 154 [.ref 67] h1 _ h3 rfl eh3 L1
  refine mX_ckct (m := mcl (mE mtab d 158 [.ref 67, .int x4] h3) 1 9 [some (.ref 67), some (.int a1)] [.int (2 * x2)]) (k_67 L3) rfl ?_
  refine mk_cIe (o := F_X11_weightOf d x4 h3) ?_
  intro x6 h5 eh5
  have L5 : lay h5 := lay_call d 158 [.ref 67, .int x4] h3 _ h5 rfl eh5 L3
  refine mX_to 1 (k' := 10) (ls' := [some (.ref 67), some (.int a1)]) (st' := [.int ((2 * x2) - x6)]) (h' := h5) rfl ?_
  refine mX_cIe (o := F_X11_size d ((2 * x2) - x6) h5) (k' := 11) (ls' := [some (.ref 67), some (.int a1)]) (st' := []) rfl ?_
  intro x8 h7 eh7
  have L7 : lay h7 := lay_call d 157 [.int ((2 * x2) - x6)] h5 _ h7 rfl eh7 L5
  exact mX_reti rfl
theorem S_X11_halves_11 {h : MH} (L : lay h) (d : Nat) (l1 : Int32) (l2 : Int32) (l3 : Int32) : G_X11_halves_11 d l1 l2 l3 h = cI (F_X11_everyone d h) (fun x4 h3 => (if l3 ≤ x4 then cI (F_X11_moreOf d l3 h3) (fun x6 h5 => cI (F_X11_moreOf d l2 h5) (fun x8 h7 => (if x6 < x8 then G_X11_halves_24 d l1 l3 l3 h7 else G_X11_halves_24 d l1 l2 l3 h7))) else (if l1 = 0 then cI (F_X11_moreOf d l2 h3) (fun x10 h9 => some (.int x10, h9)) else some (.int l2, h3)))) := by
  refine mX_to 2 (k' := 13) (ls' := [some (.ref 67), some (.int l1), some (.int l2), some (.int l3)]) (st' := [.ref 67, .int l3]) (h' := h) rfl ?_
  refine mX_ckct (m := mcl (mE mtab d 154 [.ref 67] h) 1 14 [some (.ref 67), some (.int l1), some (.int l2), some (.int l3)] [.int l3]) (k_67 L) rfl ?_
  refine mk_cIe (o := F_X11_everyone d h) ?_
  intro x4 h3 eh3
  have L3 : lay h3 := lay_call d 154 [.ref 67] h _ h3 rfl eh3 L
  refine mX_br (t := 15) (f := 26) (ls' := [some (.ref 67), some (.int l1), some (.int l2), some (.int l3)]) (st' := []) (h' := h3) rfl ?_ ?_
  · refine mX_to 2 (k' := 17) (ls' := [some (.ref 67), some (.int l1), some (.int l2), some (.int l3)]) (st' := [.int l3, .ref 67]) (h' := h3) rfl ?_
    refine mX_ckct (m := mcl (mE mtab d 301 [.ref 67, .int l3] h3) 1 18 [some (.ref 67), some (.int l1), some (.int l2), some (.int l3)] []) (k_67 L3) rfl ?_
    refine mk_cIe (o := F_X11_moreOf d l3 h3) ?_
    intro x6 h5 eh5
    have L5 : lay h5 := lay_call d 301 [.ref 67, .int l3] h3 _ h5 rfl eh5 L3
    refine mX_to 2 (k' := 20) (ls' := [some (.ref 67), some (.int l1), some (.int l2), some (.int l3)]) (st' := [.int l2, .ref 67, .int x6]) (h' := h5) rfl ?_
    refine mX_ckct (m := mcl (mE mtab d 301 [.ref 67, .int l2] h5) 1 21 [some (.ref 67), some (.int l1), some (.int l2), some (.int l3)] [.int x6]) (k_67 L5) rfl ?_
    refine mk_cIe (o := F_X11_moreOf d l2 h5) ?_
    intro x8 h7 eh7
    have L7 : lay h7 := lay_call d 301 [.ref 67, .int l2] h5 _ h7 rfl eh7 L5
    refine mX_br (t := 22) (f := 24) (ls' := [some (.ref 67), some (.int l1), some (.int l2), some (.int l3)]) (st' := []) (h' := h7) rfl ?_ ?_
    · refine mX_to 2 (k' := 24) (ls' := [some (.ref 67), some (.int l1), some (.int l3), some (.int l3)]) (st' := []) (h' := h7) rfl ?_
      rfl
    · rfl
  · refine mX_to 1 (k' := 27) (ls' := [some (.ref 67), some (.int l1), some (.int l2), some (.int l3)]) (st' := [.int l1]) (h' := h3) rfl ?_
    refine mX_br (t := 28) (f := 32) (ls' := [some (.ref 67), some (.int l1), some (.int l2), some (.int l3)]) (st' := []) (h' := h3) rfl ?_ ?_
    · refine mX_to 2 (k' := 30) (ls' := [some (.ref 67), some (.int l1), some (.int l2), some (.int l3)]) (st' := [.int l2, .ref 67]) (h' := h3) rfl ?_
      refine mX_ckct (m := mcl (mE mtab d 301 [.ref 67, .int l2] h3) 1 31 [some (.ref 67), some (.int l1), some (.int l2), some (.int l3)] []) (k_67 L3) rfl ?_
      refine mk_cIe (o := F_X11_moreOf d l2 h3) ?_
      intro x10 h9 eh9
      have L9 : lay h9 := lay_call d 301 [.ref 67, .int l2] h3 _ h9 rfl eh9 L3
      refine mX_to 1 (k' := 33) (ls' := [some (.ref 67), some (.int l1), some (.int l2), some (.int l3)]) (st' := [.int x10]) (h' := h9) rfl ?_
      exact mX_reti rfl
    · refine mX_to 1 (k' := 33) (ls' := [some (.ref 67), some (.int l1), some (.int l2), some (.int l3)]) (st' := [.int l2]) (h' := h3) rfl ?_
      exact mX_reti rfl
theorem S_X11_halves_24 {h : MH} (L : lay h) (d : Nat) (l1 : Int32) (l2 : Int32) (l3 : Int32) : G_X11_halves_24 d l1 l2 l3 h = G_X11_halves_11 d l1 l2 (l3 + 1) h := by
  refine mX_to 2 (k' := 11) (ls' := [some (.ref 67), some (.int l1), some (.int l2), some (.int (l3 + 1))]) (st' := []) (h' := h) rfl ?_
  rfl
theorem S_X11_halves {h : MH} (L : lay h) (d : Nat) (a1 : Int32) : F_X11_halves (d + 1) a1 h = cI (F_X11_isIn d a1 0 1 h) (fun x2 h1 => (if x2 = 0 then some (.int (-1), h1) else G_X11_halves_11 d a1 0 1 h1)) := by
  refine mE_eq (q := (yX11_halves, cX11_halves, 4, (some .int), KX11_halves)) (C := KX11_halves) (ls := [some (.ref 67), some (.int a1), none, none]) rfl rfl rfl rfl ?_
  refine mX_to 3 (k' := 3) (ls' := [some (.ref 67), some (.int a1), none, none]) (st' := [.int 1, .int 0, .int a1]) (h' := h) rfl ?_
  refine mX_cIe (o := F_X11_isIn d a1 0 1 h) (k' := 4) (ls' := [some (.ref 67), some (.int a1), none, none]) (st' := []) rfl ?_
  intro x2 h1 eh1
  have L1 : lay h1 := lay_call d 14 [.int a1, .int 0, .int 1] h _ h1 rfl eh1 L
  refine mX_br (t := 5) (f := 7) (ls' := [some (.ref 67), some (.int a1), none, none]) (st' := []) (h' := h1) rfl ?_ ?_
  · refine mX_to 1 (k' := 6) (ls' := [some (.ref 67), some (.int a1), none, none]) (st' := [.int (-1)]) (h' := h1) rfl ?_
    exact mX_reti rfl
  · refine mX_to 4 (k' := 11) (ls' := [some (.ref 67), some (.int a1), some (.int 0), some (.int 1)]) (st' := []) (h' := h1) rfl ?_
    rfl
theorem S_X10_level_15 {h : MH} (L : lay h) (d : Nat) (l1 : Int32) (l2 : Int32) (l3 : Int32) : G_X10_level_15 d l1 l2 l3 h = ck (ib (gI h 43 0) 5) ((if l3 < (gI h 2 (ix (gI h 43 0))) then cV (F_X9_standAs d 43 l3 h) (fun h2 => cI (F_X9_tipNow d 43 h2) (fun x4 h3 => (if x4 = 0 then (if l2 = l1 then some (.int l3, h3) else G_X10_level_36 d l1 (l2 + 1) l3 h3) else G_X10_level_36 d l1 l2 l3 h3))) else (if l1 = (-1) then some (.int l2, h) else some (.int (-2), h)))) := by
  refine mX_to 3 (k' := 18) (ls' := [some (.ref 8), some (.int l1), some (.int l2), some (.int l3)]) (st' := [.ref 8, .ref 2, .int l3]) (h' := h) rfl ?_
  refine mX_ckv (v := .ref (gR h 8 2)) (v' := .ref 43) (k' := 19) (ls' := [some (.ref 8), some (.int l1), some (.int l2), some (.int l3)]) (st' := [.ref 2, .int l3]) (h' := h) (k_8 L) (congrArg Value.ref (r_8_2 L)) rfl ?_
  refine mX_ckv (v := .int (gI h 43 0)) (v' := .int (gI h 43 0)) (k' := 20) (ls' := [some (.ref 8), some (.int l1), some (.int l2), some (.int l3)]) (st' := [.ref 2, .int l3]) (h' := h) (k_43 L) rfl rfl ?_
  refine mX_ckw (v := .int (gI h 2 (ix (gI h 43 0)))) (v' := .int (gI h 2 (ix (gI h 43 0)))) (k' := 21) (ls' := [some (.ref 8), some (.int l1), some (.int l2), some (.int l3)]) (st' := [.int l3]) (h' := h) (ckA2 (k_2 L) (n_2 L)) rfl rfl fun c5 => ?_
  refine mX_br (t := 22) (f := 38) (ls' := [some (.ref 8), some (.int l1), some (.int l2), some (.int l3)]) (st' := []) (h' := h) rfl ?_ ?_
  · refine mX_to 1 (k' := 23) (ls' := [some (.ref 8), some (.int l1), some (.int l2), some (.int l3)]) (st' := [.ref 8]) (h' := h) rfl ?_
    refine mX_ckv (v := .ref (gR h 8 2)) (v' := .ref 43) (k' := 24) (ls' := [some (.ref 8), some (.int l1), some (.int l2), some (.int l3)]) (st' := []) (h' := h) (k_8 L) (congrArg Value.ref (r_8_2 L)) rfl ?_
    refine mX_to 1 (k' := 25) (ls' := [some (.ref 8), some (.int l1), some (.int l2), some (.int l3)]) (st' := [.int l3, .ref 43]) (h' := h) rfl ?_
    refine mX_ckct (m := mcl (mE mtab d 237 [.ref 43, .int l3] h) 0 26 [some (.ref 8), some (.int l1), some (.int l2), some (.int l3)] []) (k_43 L) rfl ?_
    refine mk_cVe (o := F_X9_standAs d 43 l3 h) ?_
    intro wh2 h2 eh2
    have L2 : lay h2 := lay_call d 237 [.ref 43, .int l3] h _ h2 rfl eh2 L
    refine mX_to 1 (k' := 27) (ls' := [some (.ref 8), some (.int l1), some (.int l2), some (.int l3)]) (st' := [.ref 8]) (h' := h2) rfl ?_
    refine mX_ckv (v := .ref (gR h2 8 2)) (v' := .ref 43) (k' := 28) (ls' := [some (.ref 8), some (.int l1), some (.int l2), some (.int l3)]) (st' := []) (h' := h2) (k_8 L2) (congrArg Value.ref (r_8_2 L2)) rfl ?_
    refine mX_ckct (m := mcl (mE mtab d 139 [.ref 43] h2) 1 29 [some (.ref 8), some (.int l1), some (.int l2), some (.int l3)] []) (k_43 L2) rfl ?_
    refine mk_cIe (o := F_X9_tipNow d 43 h2) ?_
    intro x4 h3 eh3
    have L3 : lay h3 := lay_call d 139 [.ref 43] h2 _ h3 rfl eh3 L2
    refine mX_br (t := 30) (f := 36) (ls' := [some (.ref 8), some (.int l1), some (.int l2), some (.int l3)]) (st' := []) (h' := h3) rfl ?_ ?_
    · refine mX_to 2 (k' := 32) (ls' := [some (.ref 8), some (.int l1), some (.int l2), some (.int l3)]) (st' := [.int l1, .int l2]) (h' := h3) rfl ?_
      refine mX_br (t := 33) (f := 35) (ls' := [some (.ref 8), some (.int l1), some (.int l2), some (.int l3)]) (st' := []) (h' := h3) rfl ?_ ?_
      · refine mX_to 1 (k' := 34) (ls' := [some (.ref 8), some (.int l1), some (.int l2), some (.int l3)]) (st' := [.int l3]) (h' := h3) rfl ?_
        exact mX_reti rfl
      · refine mX_to 1 (k' := 36) (ls' := [some (.ref 8), some (.int l1), some (.int (l2 + 1)), some (.int l3)]) (st' := []) (h' := h3) rfl ?_
        rfl
    · rfl
  · refine mX_to 2 (k' := 40) (ls' := [some (.ref 8), some (.int l1), some (.int l2), some (.int l3)]) (st' := [.int (-1), .int l1]) (h' := h) rfl ?_
    refine mX_br (t := 41) (f := 43) (ls' := [some (.ref 8), some (.int l1), some (.int l2), some (.int l3)]) (st' := []) (h' := h) rfl ?_ ?_
    · refine mX_to 2 (k' := 44) (ls' := [some (.ref 8), some (.int l1), some (.int l2), some (.int l3)]) (st' := [.int l2]) (h' := h) rfl ?_
      exact mX_reti rfl
    · refine mX_to 1 (k' := 44) (ls' := [some (.ref 8), some (.int l1), some (.int l2), some (.int l3)]) (st' := [.int (-2)]) (h' := h) rfl ?_
      exact mX_reti rfl
theorem S_X10_level_36 {h : MH} (L : lay h) (d : Nat) (l1 : Int32) (l2 : Int32) (l3 : Int32) : G_X10_level_36 d l1 l2 l3 h = G_X10_level_15 d l1 l2 (l3 + 1) h := by
  refine mX_to 2 (k' := 15) (ls' := [some (.ref 8), some (.int l1), some (.int l2), some (.int (l3 + 1))]) (st' := []) (h' := h) rfl ?_
  rfl
theorem S_X10_level {h : MH} (L : lay h) (d : Nat) (a1 : Int32) : F_X10_level (d + 1) a1 h = (if a1 < (-1) then some (.int (-2), h) else cV (F_X9_copyFrom d 43 10 h) (fun h1 => G_X10_level_15 d a1 0 0 h1)) := by
  refine mE_eq (q := (yX10_level, cX10_level, 4, (some .int), KX10_level)) (C := KX10_level) (ls := [some (.ref 8), some (.int a1), none, none]) rfl rfl rfl rfl ?_
  refine mX_to 2 (k' := 2) (ls' := [some (.ref 8), some (.int a1), none, none]) (st' := [.int (-1), .int a1]) (h' := h) rfl ?_
  refine mX_br (t := 3) (f := 5) (ls' := [some (.ref 8), some (.int a1), none, none]) (st' := []) (h' := h) rfl ?_ ?_
  · refine mX_to 1 (k' := 4) (ls' := [some (.ref 8), some (.int a1), none, none]) (st' := [.int (-2)]) (h' := h) rfl ?_
    exact mX_reti rfl
  · refine mX_to 1 (k' := 6) (ls' := [some (.ref 8), some (.int a1), none, none]) (st' := [.ref 8]) (h' := h) rfl ?_
    refine mX_ckv (v := .ref (gR h 8 2)) (v' := .ref 43) (k' := 7) (ls' := [some (.ref 8), some (.int a1), none, none]) (st' := []) (h' := h) (k_8 L) (congrArg Value.ref (r_8_2 L)) rfl ?_
    refine mX_to 1 (k' := 8) (ls' := [some (.ref 8), some (.int a1), none, none]) (st' := [.ref 8, .ref 43]) (h' := h) rfl ?_
    refine mX_ckv (v := .ref (gR h 8 0)) (v' := .ref 9) (k' := 9) (ls' := [some (.ref 8), some (.int a1), none, none]) (st' := [.ref 43]) (h' := h) (k_8 L) (congrArg Value.ref (r_8_0 L)) rfl ?_
    refine mX_ckv (v := .ref (gR h 9 0)) (v' := .ref 10) (k' := 10) (ls' := [some (.ref 8), some (.int a1), none, none]) (st' := [.ref 43]) (h' := h) (k_9 L) (congrArg Value.ref (r_9_0 L)) rfl ?_
    refine mX_ckct (m := mcl (mE mtab d 225 [.ref 43, .ref 10] h) 0 11 [some (.ref 8), some (.int a1), none, none] []) (k_43 L) rfl ?_
    refine mk_cVe (o := F_X9_copyFrom d 43 10 h) ?_
    intro wh1 h1 eh1
    have L1 : lay h1 := lay_call d 225 [.ref 43, .ref 10] h _ h1 rfl eh1 L
    refine mX_to 4 (k' := 15) (ls' := [some (.ref 8), some (.int a1), some (.int 0), some (.int 0)]) (st' := []) (h' := h1) rfl ?_
    rfl
theorem S_X11_level_9 {h : MH} (L : lay h) (d : Nat) (l1 : Int32) (l2 : Int32) (l3 : Int32) (l4 : Int32) (l5 : Int32) : G_X11_level_9 d l1 l2 l3 l4 l5 h = cI (F_X11_nines d (gI h 68 0) h) (fun x4 h3 => (if l5 < x4 then cV (F_X11_standSo d l5 h3) (fun h5 => cI (F_X11_tipNow d h5) (fun x7 h6 => (if x7 = 0 then (if l3 = l1 then G_X11_level_28 d l1 l2 l3 l5 l5 h6 else G_X11_level_28 d l1 l2 l3 l4 l5 h6) else G_X11_level_29 d l1 l2 l3 l4 l5 h6))) else cV (F_X11_standSo d l2 h3) (fun h8 => (if l1 = (-1) then some (.int l3, h8) else some (.int l4, h8))))) := by
  refine mX_to 2 (k' := 11) (ls' := [some (.ref 67), some (.int l1), some (.int l2), some (.int l3), some (.int l4), some (.int l5)]) (st' := [.ref 67, .int l5]) (h' := h) rfl ?_
  refine mX_ckv (v := .ref (gR h 67 0)) (v' := .ref 68) (k' := 12) (ls' := [some (.ref 67), some (.int l1), some (.int l2), some (.int l3), some (.int l4), some (.int l5)]) (st' := [.int l5]) (h' := h) (k_67 L) (congrArg Value.ref (r_67_0 L)) rfl ?_
  refine mX_to 1 (k' := 13) (ls' := [some (.ref 67), some (.int l1), some (.int l2), some (.int l3), some (.int l4), some (.int l5)]) (st' := [.int 0, .ref 68, .int l5]) (h' := h) rfl ?_
  refine mX_ckv (v := .int (gI h 68 (ix (0 : Int32)))) (v' := .int (gI h 68 0)) (k' := 14) (ls' := [some (.ref 67), some (.int l1), some (.int l2), some (.int l3), some (.int l4), some (.int l5)]) (st' := [.int l5]) (h' := h) ((ckA1 (k_68 L) (n_68 L)).mpr (ib_lit (n := 0) rfl (by decide) (by decide))) (congrArg (fun j => Value.int (gI h 68 j)) (ix_lit (n := 0) rfl (by decide))) rfl ?_
  refine mX_cIe (o := F_X11_nines d (gI h 68 0) h) (k' := 15) (ls' := [some (.ref 67), some (.int l1), some (.int l2), some (.int l3), some (.int l4), some (.int l5)]) (st' := [.int l5]) rfl ?_
  intro x4 h3 eh3
  have L3 : lay h3 := lay_call d 244 [.int (gI h 68 0)] h _ h3 rfl eh3 L
  refine mX_br (t := 16) (f := 31) (ls' := [some (.ref 67), some (.int l1), some (.int l2), some (.int l3), some (.int l4), some (.int l5)]) (st' := []) (h' := h3) rfl ?_ ?_
  · refine mX_to 2 (k' := 18) (ls' := [some (.ref 67), some (.int l1), some (.int l2), some (.int l3), some (.int l4), some (.int l5)]) (st' := [.int l5, .ref 67]) (h' := h3) rfl ?_
    refine mX_ckct (m := mcl (mE mtab d 245 [.ref 67, .int l5] h3) 0 19 [some (.ref 67), some (.int l1), some (.int l2), some (.int l3), some (.int l4), some (.int l5)] []) (k_67 L3) rfl ?_
    refine mk_cVe (o := F_X11_standSo d l5 h3) ?_
    intro wh5 h5 eh5
    have L5 : lay h5 := lay_call d 245 [.ref 67, .int l5] h3 _ h5 rfl eh5 L3
    refine mX_to 1 (k' := 20) (ls' := [some (.ref 67), some (.int l1), some (.int l2), some (.int l3), some (.int l4), some (.int l5)]) (st' := [.ref 67]) (h' := h5) rfl ?_
    refine mX_ckct (m := mcl (mE mtab d 156 [.ref 67] h5) 1 21 [some (.ref 67), some (.int l1), some (.int l2), some (.int l3), some (.int l4), some (.int l5)] []) (k_67 L5) rfl ?_
    refine mk_cIe (o := F_X11_tipNow d h5) ?_
    intro x7 h6 eh6
    have L6 : lay h6 := lay_call d 156 [.ref 67] h5 _ h6 rfl eh6 L5
    refine mX_br (t := 23) (f := 22) (ls' := [some (.ref 67), some (.int l1), some (.int l2), some (.int l3), some (.int l4), some (.int l5)]) (st' := []) (h' := h6) rfl ?_ ?_
    · refine mX_to 2 (k' := 25) (ls' := [some (.ref 67), some (.int l1), some (.int l2), some (.int l3), some (.int l4), some (.int l5)]) (st' := [.int l1, .int l3]) (h' := h6) rfl ?_
      refine mX_br (t := 26) (f := 28) (ls' := [some (.ref 67), some (.int l1), some (.int l2), some (.int l3), some (.int l4), some (.int l5)]) (st' := []) (h' := h6) rfl ?_ ?_
      · refine mX_to 2 (k' := 28) (ls' := [some (.ref 67), some (.int l1), some (.int l2), some (.int l3), some (.int l5), some (.int l5)]) (st' := []) (h' := h6) rfl ?_
        rfl
      · rfl
    · refine mX_to 1 (k' := 29) (ls' := [some (.ref 67), some (.int l1), some (.int l2), some (.int l3), some (.int l4), some (.int l5)]) (st' := []) (h' := h6) rfl ?_
      rfl
  · refine mX_to 2 (k' := 33) (ls' := [some (.ref 67), some (.int l1), some (.int l2), some (.int l3), some (.int l4), some (.int l5)]) (st' := [.int l2, .ref 67]) (h' := h3) rfl ?_
    refine mX_ckct (m := mcl (mE mtab d 245 [.ref 67, .int l2] h3) 0 34 [some (.ref 67), some (.int l1), some (.int l2), some (.int l3), some (.int l4), some (.int l5)] []) (k_67 L3) rfl ?_
    refine mk_cVe (o := F_X11_standSo d l2 h3) ?_
    intro wh8 h8 eh8
    have L8 : lay h8 := lay_call d 245 [.ref 67, .int l2] h3 _ h8 rfl eh8 L3
    refine mX_to 2 (k' := 36) (ls' := [some (.ref 67), some (.int l1), some (.int l2), some (.int l3), some (.int l4), some (.int l5)]) (st' := [.int (-1), .int l1]) (h' := h8) rfl ?_
    refine mX_br (t := 37) (f := 39) (ls' := [some (.ref 67), some (.int l1), some (.int l2), some (.int l3), some (.int l4), some (.int l5)]) (st' := []) (h' := h8) rfl ?_ ?_
    · refine mX_to 2 (k' := 40) (ls' := [some (.ref 67), some (.int l1), some (.int l2), some (.int l3), some (.int l4), some (.int l5)]) (st' := [.int l3]) (h' := h8) rfl ?_
      exact mX_reti rfl
    · refine mX_to 1 (k' := 40) (ls' := [some (.ref 67), some (.int l1), some (.int l2), some (.int l3), some (.int l4), some (.int l5)]) (st' := [.int l4]) (h' := h8) rfl ?_
      exact mX_reti rfl
theorem S_X11_level_28 {h : MH} (L : lay h) (d : Nat) (l1 : Int32) (l2 : Int32) (l3 : Int32) (l4 : Int32) (l5 : Int32) : G_X11_level_28 d l1 l2 l3 l4 l5 h = G_X11_level_29 d l1 l2 (l3 + 1) l4 l5 h := by
  refine mX_to 1 (k' := 29) (ls' := [some (.ref 67), some (.int l1), some (.int l2), some (.int (l3 + 1)), some (.int l4), some (.int l5)]) (st' := []) (h' := h) rfl ?_
  rfl
theorem S_X11_level_29 {h : MH} (L : lay h) (d : Nat) (l1 : Int32) (l2 : Int32) (l3 : Int32) (l4 : Int32) (l5 : Int32) : G_X11_level_29 d l1 l2 l3 l4 l5 h = G_X11_level_9 d l1 l2 l3 l4 (l5 + 1) h := by
  refine mX_to 2 (k' := 9) (ls' := [some (.ref 67), some (.int l1), some (.int l2), some (.int l3), some (.int l4), some (.int (l5 + 1))]) (st' := []) (h' := h) rfl ?_
  rfl
theorem S_X11_level {h : MH} (L : lay h) (d : Nat) (a1 : Int32) : F_X11_level (d + 1) a1 h = cI (F_X11_standNow d h) (fun x2 h1 => G_X11_level_9 d a1 x2 0 (-2) 0 h1) := by
  refine mE_eq (q := (yX11_level, cX11_level, 6, (some .int), KX11_level)) (C := KX11_level) (ls := [some (.ref 67), some (.int a1), none, none, none, none]) rfl rfl rfl rfl ?_
  refine mX_to 1 (k' := 1) (ls' := [some (.ref 67), some (.int a1), none, none, none, none]) (st' := [.ref 67]) (h' := h) rfl ?_
  refine mX_ckct (m := mcl (mE mtab d 243 [.ref 67] h) 1 2 [some (.ref 67), some (.int a1), none, none, none, none] []) (k_67 L) rfl ?_
  refine mk_cIe (o := F_X11_standNow d h) ?_
  intro x2 h1 eh1
  have L1 : lay h1 := lay_call d 243 [.ref 67] h _ h1 rfl eh1 L
  refine mX_to 7 (k' := 9) (ls' := [some (.ref 67), some (.int a1), some (.int x2), some (.int 0), some (.int (-2)), some (.int 0)]) (st' := []) (h' := h1) rfl ?_
  rfl
theorem S_X9_tipSwapped {h : MH} (L : lay h) (d : Nat) (q : Nat) (a1 : Int32) (a2 : Int32) (T : tAt q) : F_X9_tipSwapped (d + 1) q a1 a2 h = cI (F_X9_tipNow d q h) (fun x2 h1 => ck (ib a1 4) (ck (ib a2 4) (ck (ib a2 4) (ck (ib a1 4) (some (.int (x2 + (((gI h1 (q + 1) (ix a1)) - (gI h1 (q + 1) (ix a2))) * ((gI h1 (q + 2) (ix a2)) - (gI h1 (q + 2) (ix a1))))), h1)))))) := by
  refine mE_eq (q := (yX9_tipSwapped, cX9_tipSwapped, 3, (some .int), KX9_tipSwapped)) (C := KX9_tipSwapped) (ls := [some (.ref q), some (.int a1), some (.int a2)]) rfl rfl rfl rfl ?_
  refine mX_to 1 (k' := 1) (ls' := [some (.ref q), some (.int a1), some (.int a2)]) (st' := [.ref q]) (h' := h) rfl ?_
  refine mX_ckct (m := mcl (mE mtab d 139 [.ref q] h) 1 2 [some (.ref q), some (.int a1), some (.int a2)] []) (kT0 L T) rfl ?_
  refine mk_cIe (o := F_X9_tipNow d q h) ?_
  intro x2 h1 eh1
  have L1 : lay h1 := lay_call d 139 [.ref q] h _ h1 rfl eh1 L
  refine mX_to 1 (k' := 3) (ls' := [some (.ref q), some (.int a1), some (.int a2)]) (st' := [.ref q, .int x2]) (h' := h1) rfl ?_
  refine mX_ckv (v := .ref (gR h1 q 1)) (v' := .ref (q + 1)) (k' := 4) (ls' := [some (.ref q), some (.int a1), some (.int a2)]) (st' := [.int x2]) (h' := h1) (kT0 L1 T) (congrArg Value.ref (rT1 L1 T)) rfl ?_
  refine mX_to 1 (k' := 5) (ls' := [some (.ref q), some (.int a1), some (.int a2)]) (st' := [.int a1, .ref (q + 1), .int x2]) (h' := h1) rfl ?_
  refine mX_ckw (v := .int (gI h1 (q + 1) (ix a1))) (v' := .int (gI h1 (q + 1) (ix a1))) (k' := 6) (ls' := [some (.ref q), some (.int a1), some (.int a2)]) (st' := [.int x2]) (h' := h1) (ckA1 (kT1 L1 T) (nT1 L1 T)) rfl rfl fun c6 => ?_
  refine mX_to 1 (k' := 7) (ls' := [some (.ref q), some (.int a1), some (.int a2)]) (st' := [.ref q, .int (gI h1 (q + 1) (ix a1)), .int x2]) (h' := h1) rfl ?_
  refine mX_ckv (v := .ref (gR h1 q 1)) (v' := .ref (q + 1)) (k' := 8) (ls' := [some (.ref q), some (.int a1), some (.int a2)]) (st' := [.int (gI h1 (q + 1) (ix a1)), .int x2]) (h' := h1) (kT0 L1 T) (congrArg Value.ref (rT1 L1 T)) rfl ?_
  refine mX_to 1 (k' := 9) (ls' := [some (.ref q), some (.int a1), some (.int a2)]) (st' := [.int a2, .ref (q + 1), .int (gI h1 (q + 1) (ix a1)), .int x2]) (h' := h1) rfl ?_
  refine mX_ckw (v := .int (gI h1 (q + 1) (ix a2))) (v' := .int (gI h1 (q + 1) (ix a2))) (k' := 10) (ls' := [some (.ref q), some (.int a1), some (.int a2)]) (st' := [.int (gI h1 (q + 1) (ix a1)), .int x2]) (h' := h1) (ckA1 (kT1 L1 T) (nT1 L1 T)) rfl rfl fun c5 => ?_
  refine mX_to 2 (k' := 12) (ls' := [some (.ref q), some (.int a1), some (.int a2)]) (st' := [.ref q, .int ((gI h1 (q + 1) (ix a1)) - (gI h1 (q + 1) (ix a2))), .int x2]) (h' := h1) rfl ?_
  refine mX_ckv (v := .ref (gR h1 q 2)) (v' := .ref (q + 2)) (k' := 13) (ls' := [some (.ref q), some (.int a1), some (.int a2)]) (st' := [.int ((gI h1 (q + 1) (ix a1)) - (gI h1 (q + 1) (ix a2))), .int x2]) (h' := h1) (kT0 L1 T) (congrArg Value.ref (rT2 L1 T)) rfl ?_
  refine mX_to 1 (k' := 14) (ls' := [some (.ref q), some (.int a1), some (.int a2)]) (st' := [.int a2, .ref (q + 2), .int ((gI h1 (q + 1) (ix a1)) - (gI h1 (q + 1) (ix a2))), .int x2]) (h' := h1) rfl ?_
  refine mX_ckw (v := .int (gI h1 (q + 2) (ix a2))) (v' := .int (gI h1 (q + 2) (ix a2))) (k' := 15) (ls' := [some (.ref q), some (.int a1), some (.int a2)]) (st' := [.int ((gI h1 (q + 1) (ix a1)) - (gI h1 (q + 1) (ix a2))), .int x2]) (h' := h1) (ckA1 (kT2 L1 T) (nT2 L1 T)) rfl rfl fun c4 => ?_
  refine mX_to 1 (k' := 16) (ls' := [some (.ref q), some (.int a1), some (.int a2)]) (st' := [.ref q, .int (gI h1 (q + 2) (ix a2)), .int ((gI h1 (q + 1) (ix a1)) - (gI h1 (q + 1) (ix a2))), .int x2]) (h' := h1) rfl ?_
  refine mX_ckv (v := .ref (gR h1 q 2)) (v' := .ref (q + 2)) (k' := 17) (ls' := [some (.ref q), some (.int a1), some (.int a2)]) (st' := [.int (gI h1 (q + 2) (ix a2)), .int ((gI h1 (q + 1) (ix a1)) - (gI h1 (q + 1) (ix a2))), .int x2]) (h' := h1) (kT0 L1 T) (congrArg Value.ref (rT2 L1 T)) rfl ?_
  refine mX_to 1 (k' := 18) (ls' := [some (.ref q), some (.int a1), some (.int a2)]) (st' := [.int a1, .ref (q + 2), .int (gI h1 (q + 2) (ix a2)), .int ((gI h1 (q + 1) (ix a1)) - (gI h1 (q + 1) (ix a2))), .int x2]) (h' := h1) rfl ?_
  refine mX_ckw (v := .int (gI h1 (q + 2) (ix a1))) (v' := .int (gI h1 (q + 2) (ix a1))) (k' := 19) (ls' := [some (.ref q), some (.int a1), some (.int a2)]) (st' := [.int (gI h1 (q + 2) (ix a2)), .int ((gI h1 (q + 1) (ix a1)) - (gI h1 (q + 1) (ix a2))), .int x2]) (h' := h1) (ckA1 (kT2 L1 T) (nT2 L1 T)) rfl rfl fun c3 => ?_
  refine mX_to 3 (k' := 22) (ls' := [some (.ref q), some (.int a1), some (.int a2)]) (st' := [.int (x2 + (((gI h1 (q + 1) (ix a1)) - (gI h1 (q + 1) (ix a2))) * ((gI h1 (q + 2) (ix a2)) - (gI h1 (q + 2) (ix a1)))))]) (h' := h1) rfl ?_
  exact mX_reti rfl
