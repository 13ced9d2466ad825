--deps:19.lay 21.facts 22.00.names
/-! EQUATIONS over the fixed cells (written by wip/gen/sgen.py) -/
theorem S_X11_bits_4 {h : MH} (L : lay h) (d : Nat) (l0 : Int32) (l1 : Int32) (l2 : Int32) : G_X11_bits_4 d l0 l1 l2 h = (if l2 = 0 then some (.int l1, h) else lt_ (l2 &&& (l2 - 1)) fun v1 => G_X11_bits_4 d l0 (l1 + 1) v1 h) := by
  refine mX_to 1 (k' := 5) (ls' := [some (.int l0), some (.int l1), some (.int l2)]) (st' := [.int l2]) (h' := h) rfl ?_
  refine mX_br (t := 14) (f := 6) (ls' := [some (.int l0), some (.int l1), some (.int l2)]) (st' := []) (h' := h) rfl ?_ ?_
  · refine mX_to 1 (k' := 15) (ls' := [some (.int l0), some (.int l1), some (.int l2)]) (st' := [.int l1]) (h' := h) rfl ?_
    exact mX_reti rfl
  · refine mX_to 6 (k' := 12) (ls' := [some (.int l0), some (.int (l1 + 1)), some (.int l2)]) (st' := [.int (l2 &&& (l2 - 1))]) (h' := h) rfl ?_
    refine lt_gen (X := fun v1 : Int32 => mX (mE mtab d) KX11_bits 12 [some (.int l0), some (.int (l1 + 1)), some (.int l2)] [.int v1] h) fun v1 => ?_
    refine mX_to 2 (k' := 4) (ls' := [some (.int l0), some (.int (l1 + 1)), some (.int v1)]) (st' := []) (h' := h) rfl ?_
    rfl
theorem S_X11_bits {h : MH} (L : lay h) (d : Nat) (a0 : Int32) : F_X11_bits (d + 1) a0 h = G_X11_bits_4 d a0 0 a0 h := by
  refine mE_eq (q := (yX11_bits, cX11_bits, 3, (some .int), KX11_bits)) (C := KX11_bits) (ls := [some (.int a0), none, none]) rfl rfl rfl rfl ?_
  refine mX_to 4 (k' := 4) (ls' := [some (.int a0), some (.int 0), some (.int a0)]) (st' := []) (h' := h) rfl ?_
  rfl
theorem S_X11_isBetter_54 {h : MH} (L : lay h) (d : Nat) (l1 : Int32) (l2 : Int32) (l3 : Int32) : G_X11_isBetter_54 d l1 l2 l3 h = (if l3 < (gI h 68 1) then ck (ib l3 4) (ck (ib l3 4) ((if (gI h 80 (ix l3)) = (gI h 81 (ix l3)) then G_X11_isBetter_54 d l1 l2 (l3 + 1) h else ck (ib l3 4) (ck (ib l3 4) ((if (gI h 80 (ix l3)) < (gI h 81 (ix l3)) then some (.int 1, h) else some (.int 0, h))))))) else some (.int 0, h)) := by
  refine mX_to 2 (k' := 56) (ls' := [some (.ref 67), some (.int l1), some (.int l2), some (.int l3)]) (st' := [.ref 67, .int l3]) (h' := h) rfl ?_
  refine mX_ckv (v := .ref (gR h 67 0)) (v' := .ref 68) (k' := 57) (ls' := [some (.ref 67), some (.int l1), some (.int l2), some (.int l3)]) (st' := [.int l3]) (h' := h) (k_67 L) (congrArg Value.ref (r_67_0 L)) rfl ?_
  refine mX_to 1 (k' := 58) (ls' := [some (.ref 67), some (.int l1), some (.int l2), some (.int l3)]) (st' := [.int 1, .ref 68, .int l3]) (h' := h) rfl ?_
  refine mX_ckv (v := .int (gI h 68 (ix (1 : Int32)))) (v' := .int (gI h 68 1)) (k' := 59) (ls' := [some (.ref 67), some (.int l1), some (.int l2), some (.int l3)]) (st' := [.int l3]) (h' := h) ((ckA1 (k_68 L) (n_68 L)).mpr (ib_lit (n := 1) rfl (by decide) (by decide))) (congrArg (fun j => Value.int (gI h 68 j)) (ix_lit (n := 1) rfl (by decide))) rfl ?_
  refine mX_br (t := 60) (f := 84) (ls' := [some (.ref 67), some (.int l1), some (.int l2), some (.int l3)]) (st' := []) (h' := h) rfl ?_ ?_
  · refine mX_to 1 (k' := 61) (ls' := [some (.ref 67), some (.int l1), some (.int l2), some (.int l3)]) (st' := [.ref 67]) (h' := h) rfl ?_
    refine mX_ckv (v := .ref (gR h 67 29)) (v' := .ref 80) (k' := 62) (ls' := [some (.ref 67), some (.int l1), some (.int l2), some (.int l3)]) (st' := []) (h' := h) (k_67 L) (congrArg Value.ref (r_67_29 L)) rfl ?_
    refine mX_to 1 (k' := 63) (ls' := [some (.ref 67), some (.int l1), some (.int l2), some (.int l3)]) (st' := [.int l3, .ref 80]) (h' := h) rfl ?_
    refine mX_ckw (v := .int (gI h 80 (ix l3))) (v' := .int (gI h 80 (ix l3))) (k' := 64) (ls' := [some (.ref 67), some (.int l1), some (.int l2), some (.int l3)]) (st' := []) (h' := h) (ckA1 (k_80 L) (n_80 L)) rfl rfl fun c24 => ?_
    refine mX_to 1 (k' := 65) (ls' := [some (.ref 67), some (.int l1), some (.int l2), some (.int l3)]) (st' := [.ref 67, .int (gI h 80 (ix l3))]) (h' := h) rfl ?_
    refine mX_ckv (v := .ref (gR h 67 30)) (v' := .ref 81) (k' := 66) (ls' := [some (.ref 67), some (.int l1), some (.int l2), some (.int l3)]) (st' := [.int (gI h 80 (ix l3))]) (h' := h) (k_67 L) (congrArg Value.ref (r_67_30 L)) rfl ?_
    refine mX_to 1 (k' := 67) (ls' := [some (.ref 67), some (.int l1), some (.int l2), some (.int l3)]) (st' := [.int l3, .ref 81, .int (gI h 80 (ix l3))]) (h' := h) rfl ?_
    refine mX_ckw (v := .int (gI h 81 (ix l3))) (v' := .int (gI h 81 (ix l3))) (k' := 68) (ls' := [some (.ref 67), some (.int l1), some (.int l2), some (.int l3)]) (st' := [.int (gI h 80 (ix l3))]) (h' := h) (ckA1 (k_81 L) (n_81 L)) rfl rfl fun c23 => ?_
    refine mX_br (t := 82) (f := 69) (ls' := [some (.ref 67), some (.int l1), some (.int l2), some (.int l3)]) (st' := []) (h' := h) rfl ?_ ?_
    · refine mX_to 2 (k' := 54) (ls' := [some (.ref 67), some (.int l1), some (.int l2), some (.int (l3 + 1))]) (st' := []) (h' := h) rfl ?_
      rfl
    · refine mX_to 1 (k' := 70) (ls' := [some (.ref 67), some (.int l1), some (.int l2), some (.int l3)]) (st' := [.ref 67]) (h' := h) rfl ?_
      refine mX_ckv (v := .ref (gR h 67 29)) (v' := .ref 80) (k' := 71) (ls' := [some (.ref 67), some (.int l1), some (.int l2), some (.int l3)]) (st' := []) (h' := h) (k_67 L) (congrArg Value.ref (r_67_29 L)) rfl ?_
      refine mX_to 1 (k' := 72) (ls' := [some (.ref 67), some (.int l1), some (.int l2), some (.int l3)]) (st' := [.int l3, .ref 80]) (h' := h) rfl ?_
      refine mX_ckw (v := .int (gI h 80 (ix l3))) (v' := .int (gI h 80 (ix l3))) (k' := 73) (ls' := [some (.ref 67), some (.int l1), some (.int l2), some (.int l3)]) (st' := []) (h' := h) (ckA1 (k_80 L) (n_80 L)) rfl rfl fun c22 => ?_
      refine mX_to 1 (k' := 74) (ls' := [some (.ref 67), some (.int l1), some (.int l2), some (.int l3)]) (st' := [.ref 67, .int (gI h 80 (ix l3))]) (h' := h) rfl ?_
      refine mX_ckv (v := .ref (gR h 67 30)) (v' := .ref 81) (k' := 75) (ls' := [some (.ref 67), some (.int l1), some (.int l2), some (.int l3)]) (st' := [.int (gI h 80 (ix l3))]) (h' := h) (k_67 L) (congrArg Value.ref (r_67_30 L)) rfl ?_
      refine mX_to 1 (k' := 76) (ls' := [some (.ref 67), some (.int l1), some (.int l2), some (.int l3)]) (st' := [.int l3, .ref 81, .int (gI h 80 (ix l3))]) (h' := h) rfl ?_
      refine mX_ckw (v := .int (gI h 81 (ix l3))) (v' := .int (gI h 81 (ix l3))) (k' := 77) (ls' := [some (.ref 67), some (.int l1), some (.int l2), some (.int l3)]) (st' := [.int (gI h 80 (ix l3))]) (h' := h) (ckA1 (k_81 L) (n_81 L)) rfl rfl fun c21 => ?_
      refine mX_br (t := 78) (f := 80) (ls' := [some (.ref 67), some (.int l1), some (.int l2), some (.int l3)]) (st' := []) (h' := h) rfl ?_ ?_
      · refine mX_to 2 (k' := 81) (ls' := [some (.ref 67), some (.int l1), some (.int l2), some (.int l3)]) (st' := [.int 1]) (h' := h) rfl ?_
        exact mX_retb (by decide) rfl
      · refine mX_to 1 (k' := 81) (ls' := [some (.ref 67), some (.int l1), some (.int l2), some (.int l3)]) (st' := [.int 0]) (h' := h) rfl ?_
        exact mX_retb (by decide) rfl
  · refine mX_to 1 (k' := 85) (ls' := [some (.ref 67), some (.int l1), some (.int l2), some (.int l3)]) (st' := [.int 0]) (h' := h) rfl ?_
    exact mX_retb (by decide) rfl
theorem S_X11_isBetter {h : MH} (L : lay h) (d : Nat) : F_X11_isBetter (d + 1) h = cI (F_X11_standing d 80 h) (fun x2 h1 => cI (F_X11_standing d 81 h1) (fun x4 h3 => cI (F_X11_wageOf d x2 h3) (fun x6 h5 => cI (F_X11_wageOf d x4 h5) (fun x8 h7 => (if x6 = x8 then cI (F_X11_bits d x2 h7) (fun x10 h9 => cI (F_X11_bits d x4 h9) (fun x12 h11 => (if x10 = x12 then (if x2 = x4 then G_X11_isBetter_54 d x2 x4 0 h11 else (if x2 < x4 then some (.int 1, h11) else some (.int 0, h11))) else cI (F_X11_bits d x2 h11) (fun x14 h13 => cI (F_X11_bits d x4 h13) (fun x16 h15 => (if x14 < x16 then some (.int 1, h15) else some (.int 0, h15))))))) else cI (F_X11_wageOf d x2 h7) (fun x18 h17 => cI (F_X11_wageOf d x4 h17) (fun x20 h19 => (if x18 < x20 then some (.int 1, h19) else some (.int 0, h19))))))))) := by
  refine mE_eq (q := (yX11_isBetter, cX11_isBetter, 4, (some .boolean), KX11_isBetter)) (C := KX11_isBetter) (ls := [some (.ref 67), none, none, none]) rfl rfl rfl rfl ?_
  refine mX_to 2 (k' := 2) (ls' := [some (.ref 67), none, none, none]) (st' := [.ref 67, .ref 67]) (h' := h) rfl ?_
  refine mX_ckv (v := .ref (gR h 67 29)) (v' := .ref 80) (k' := 3) (ls' := [some (.ref 67), none, none, none]) (st' := [.ref 67]) (h' := h) (k_67 L) (congrArg Value.ref (r_67_29 L)) rfl ?_
  refine mX_ckct (m := mcl (mE mtab d 266 [.ref 67, .ref 80] h) 1 4 [some (.ref 67), none, none, none] []) (k_67 L) rfl ?_
  refine mk_cIe (o := F_X11_standing d 80 h) ?_
  intro x2 h1 eh1
  have L1 : lay h1 := lay_call d 266 [.ref 67, .ref 80] h _ h1 rfl eh1 L
  refine mX_to 3 (k' := 7) (ls' := [some (.ref 67), some (.int x2), none, none]) (st' := [.ref 67, .ref 67]) (h' := h1) rfl ?_
  refine mX_ckv (v := .ref (gR h1 67 30)) (v' := .ref 81) (k' := 8) (ls' := [some (.ref 67), some (.int x2), none, none]) (st' := [.ref 67]) (h' := h1) (k_67 L1) (congrArg Value.ref (r_67_30 L1)) rfl ?_
  refine mX_ckct (m := mcl (mE mtab d 266 [.ref 67, .ref 81] h1) 1 9 [some (.ref 67), some (.int x2), none, none] []) (k_67 L1) rfl ?_
  refine mk_cIe (o := F_X11_standing d 81 h1) ?_
  intro x4 h3 eh3
  have L3 : lay h3 := lay_call d 266 [.ref 67, .ref 81] h1 _ h3 rfl eh3 L1
  refine mX_to 3 (k' := 12) (ls' := [some (.ref 67), some (.int x2), some (.int x4), none]) (st' := [.int x2, .ref 67]) (h' := h3) rfl ?_
  refine mX_ckct (m := mcl (mE mtab d 267 [.ref 67, .int x2] h3) 1 13 [some (.ref 67), some (.int x2), some (.int x4), none] []) (k_67 L3) rfl ?_
  refine mk_cIe (o := F_X11_wageOf d x2 h3) ?_
  intro x6 h5 eh5
  have L5 : lay h5 := lay_call d 267 [.ref 67, .int x2] h3 _ h5 rfl eh5 L3
  refine mX_to 2 (k' := 15) (ls' := [some (.ref 67), some (.int x2), some (.int x4), none]) (st' := [.int x4, .ref 67, .int x6]) (h' := h5) rfl ?_
  refine mX_ckct (m := mcl (mE mtab d 267 [.ref 67, .int x4] h5) 1 16 [some (.ref 67), some (.int x2), some (.int x4), none] [.int x6]) (k_67 L5) rfl ?_
  refine mk_cIe (o := F_X11_wageOf d x4 h5) ?_
  intro x8 h7 eh7
  have L7 : lay h7 := lay_call d 267 [.ref 67, .int x4] h5 _ h7 rfl eh7 L5
  refine mX_br (t := 28) (f := 17) (ls' := [some (.ref 67), some (.int x2), some (.int x4), none]) (st' := []) (h' := h7) rfl ?_ ?_
  · refine mX_to 1 (k' := 29) (ls' := [some (.ref 67), some (.int x2), some (.int x4), none]) (st' := [.int x2]) (h' := h7) rfl ?_
    refine mX_cIe (o := F_X11_bits d x2 h7) (k' := 30) (ls' := [some (.ref 67), some (.int x2), some (.int x4), none]) (st' := []) rfl ?_
    intro x10 h9 eh9
    have L9 : lay h9 := lay_call d 268 [.int x2] h7 _ h9 rfl eh9 L7
    refine mX_to 1 (k' := 31) (ls' := [some (.ref 67), some (.int x2), some (.int x4), none]) (st' := [.int x4, .int x10]) (h' := h9) rfl ?_
    refine mX_cIe (o := F_X11_bits d x4 h9) (k' := 32) (ls' := [some (.ref 67), some (.int x2), some (.int x4), none]) (st' := [.int x10]) rfl ?_
    intro x12 h11 eh11
    have L11 : lay h11 := lay_call d 268 [.int x4] h9 _ h11 rfl eh11 L9
    refine mX_br (t := 42) (f := 33) (ls' := [some (.ref 67), some (.int x2), some (.int x4), none]) (st' := []) (h' := h11) rfl ?_ ?_
    · refine mX_to 2 (k' := 44) (ls' := [some (.ref 67), some (.int x2), some (.int x4), none]) (st' := [.int x4, .int x2]) (h' := h11) rfl ?_
      refine mX_br (t := 52) (f := 45) (ls' := [some (.ref 67), some (.int x2), some (.int x4), none]) (st' := []) (h' := h11) rfl ?_ ?_
      · refine mX_to 2 (k' := 54) (ls' := [some (.ref 67), some (.int x2), some (.int x4), some (.int 0)]) (st' := []) (h' := h11) rfl ?_
        rfl
      · refine mX_to 2 (k' := 47) (ls' := [some (.ref 67), some (.int x2), some (.int x4), none]) (st' := [.int x4, .int x2]) (h' := h11) rfl ?_
        refine mX_br (t := 48) (f := 50) (ls' := [some (.ref 67), some (.int x2), some (.int x4), none]) (st' := []) (h' := h11) rfl ?_ ?_
        · refine mX_to 2 (k' := 51) (ls' := [some (.ref 67), some (.int x2), some (.int x4), none]) (st' := [.int 1]) (h' := h11) rfl ?_
          exact mX_retb (by decide) rfl
        · refine mX_to 1 (k' := 51) (ls' := [some (.ref 67), some (.int x2), some (.int x4), none]) (st' := [.int 0]) (h' := h11) rfl ?_
          exact mX_retb (by decide) rfl
    · refine mX_to 1 (k' := 34) (ls' := [some (.ref 67), some (.int x2), some (.int x4), none]) (st' := [.int x2]) (h' := h11) rfl ?_
      refine mX_cIe (o := F_X11_bits d x2 h11) (k' := 35) (ls' := [some (.ref 67), some (.int x2), some (.int x4), none]) (st' := []) rfl ?_
      intro x14 h13 eh13
      have L13 : lay h13 := lay_call d 268 [.int x2] h11 _ h13 rfl eh13 L11
      refine mX_to 1 (k' := 36) (ls' := [some (.ref 67), some (.int x2), some (.int x4), none]) (st' := [.int x4, .int x14]) (h' := h13) rfl ?_
      refine mX_cIe (o := F_X11_bits d x4 h13) (k' := 37) (ls' := [some (.ref 67), some (.int x2), some (.int x4), none]) (st' := [.int x14]) rfl ?_
      intro x16 h15 eh15
      have L15 : lay h15 := lay_call d 268 [.int x4] h13 _ h15 rfl eh15 L13
      refine mX_br (t := 38) (f := 40) (ls' := [some (.ref 67), some (.int x2), some (.int x4), none]) (st' := []) (h' := h15) rfl ?_ ?_
      · refine mX_to 2 (k' := 41) (ls' := [some (.ref 67), some (.int x2), some (.int x4), none]) (st' := [.int 1]) (h' := h15) rfl ?_
        exact mX_retb (by decide) rfl
      · refine mX_to 1 (k' := 41) (ls' := [some (.ref 67), some (.int x2), some (.int x4), none]) (st' := [.int 0]) (h' := h15) rfl ?_
        exact mX_retb (by decide) rfl
  · refine mX_to 2 (k' := 19) (ls' := [some (.ref 67), some (.int x2), some (.int x4), none]) (st' := [.int x2, .ref 67]) (h' := h7) rfl ?_
    refine mX_ckct (m := mcl (mE mtab d 267 [.ref 67, .int x2] h7) 1 20 [some (.ref 67), some (.int x2), some (.int x4), none] []) (k_67 L7) rfl ?_
    refine mk_cIe (o := F_X11_wageOf d x2 h7) ?_
    intro x18 h17 eh17
    have L17 : lay h17 := lay_call d 267 [.ref 67, .int x2] h7 _ h17 rfl eh17 L7
    refine mX_to 2 (k' := 22) (ls' := [some (.ref 67), some (.int x2), some (.int x4), none]) (st' := [.int x4, .ref 67, .int x18]) (h' := h17) rfl ?_
    refine mX_ckct (m := mcl (mE mtab d 267 [.ref 67, .int x4] h17) 1 23 [some (.ref 67), some (.int x2), some (.int x4), none] [.int x18]) (k_67 L17) rfl ?_
    refine mk_cIe (o := F_X11_wageOf d x4 h17) ?_
    intro x20 h19 eh19
    have L19 : lay h19 := lay_call d 267 [.ref 67, .int x4] h17 _ h19 rfl eh19 L17
    refine mX_br (t := 24) (f := 26) (ls' := [some (.ref 67), some (.int x2), some (.int x4), none]) (st' := []) (h' := h19) rfl ?_ ?_
    · refine mX_to 2 (k' := 27) (ls' := [some (.ref 67), some (.int x2), some (.int x4), none]) (st' := [.int 1]) (h' := h19) rfl ?_
      exact mX_retb (by decide) rfl
    · refine mX_to 1 (k' := 27) (ls' := [some (.ref 67), some (.int x2), some (.int x4), none]) (st' := [.int 0]) (h' := h19) rfl ?_
      exact mX_retb (by decide) rfl
theorem S_X11_isPaid_6 {h : MH} (L : lay h) (d : Nat) (l1 : Int32) (l2 : Int32) (l3 : Int32) : G_X11_isPaid_6 d l1 l2 l3 h = (if l3 < (gI h 68 1) then G_X11_isPaid_6 d l1 (l2 * 10) (l3 + 1) h else G_X11_isPaid_20 d l1 l2 0 none h) := by
  refine mX_to 2 (k' := 8) (ls' := [some (.ref 67), some (.int l1), some (.int l2), some (.int l3), none]) (st' := [.ref 67, .int l3]) (h' := h) rfl ?_
  refine mX_ckv (v := .ref (gR h 67 0)) (v' := .ref 68) (k' := 9) (ls' := [some (.ref 67), some (.int l1), some (.int l2), some (.int l3), none]) (st' := [.int l3]) (h' := h) (k_67 L) (congrArg Value.ref (r_67_0 L)) rfl ?_
  refine mX_to 1 (k' := 10) (ls' := [some (.ref 67), some (.int l1), some (.int l2), some (.int l3), none]) (st' := [.int 1, .ref 68, .int l3]) (h' := h) rfl ?_
  refine mX_ckv (v := .int (gI h 68 (ix (1 : Int32)))) (v' := .int (gI h 68 1)) (k' := 11) (ls' := [some (.ref 67), some (.int l1), some (.int l2), some (.int l3), none]) (st' := [.int l3]) (h' := h) ((ckA1 (k_68 L) (n_68 L)).mpr (ib_lit (n := 1) rfl (by decide) (by decide))) (congrArg (fun j => Value.int (gI h 68 j)) (ix_lit (n := 1) rfl (by decide))) rfl ?_
  refine mX_br (t := 12) (f := 18) (ls' := [some (.ref 67), some (.int l1), some (.int l2), some (.int l3), none]) (st' := []) (h' := h) rfl ?_ ?_
  · refine mX_to 6 (k' := 6) (ls' := [some (.ref 67), some (.int l1), some (.int (l2 * 10)), some (.int (l3 + 1)), none]) (st' := []) (h' := h) rfl ?_
    rfl
  · refine mX_to 2 (k' := 20) (ls' := [some (.ref 67), some (.int l1), some (.int l2), some (.int 0), none]) (st' := []) (h' := h) rfl ?_
    rfl
theorem S_X11_isPaid_20 {h : MH} (L : lay h) (d : Nat) (l1 : Int32) (l2 : Int32) (l3 : Int32) (o4 : Option Value) : G_X11_isPaid_20 d l1 l2 l3 o4 h = (if l3 < l2 then cI (F_X11_areStands d l3 h) (fun x2 h1 => (if x2 = 0 then G_X11_isPaid_53 d l1 l2 l3 (o4) h1 else (if l1 = 0 then G_X11_isPaid_33 d l1 l2 l3 (o4) h1 else cI (F_X11_isBetter d h1) (fun x4 h3 => (if x4 = 0 then G_X11_isPaid_53 d l1 l2 l3 (o4) h3 else G_X11_isPaid_33 d l1 l2 l3 (o4) h3))))) else ck (mrt 1 l1) (some (.int l1, h))) := by
  refine mX_to 2 (k' := 22) (ls' := [some (.ref 67), some (.int l1), some (.int l2), some (.int l3), o4]) (st' := [.int l2, .int l3]) (h' := h) rfl ?_
  refine mX_br (t := 23) (f := 55) (ls' := [some (.ref 67), some (.int l1), some (.int l2), some (.int l3), o4]) (st' := []) (h' := h) rfl ?_ ?_
  · refine mX_to 2 (k' := 25) (ls' := [some (.ref 67), some (.int l1), some (.int l2), some (.int l3), o4]) (st' := [.int l3, .ref 67]) (h' := h) rfl ?_
    refine mX_ckct (m := mcl (mE mtab d 265 [.ref 67, .int l3] h) 1 26 [some (.ref 67), some (.int l1), some (.int l2), some (.int l3), o4] []) (k_67 L) rfl ?_
    refine mk_cIe (o := F_X11_areStands d l3 h) ?_
    intro x2 h1 eh1
    have L1 : lay h1 := lay_call d 265 [.ref 67, .int l3] h _ h1 rfl eh1 L
    refine mX_br (t := 53) (f := 27) (ls' := [some (.ref 67), some (.int l1), some (.int l2), some (.int l3), o4]) (st' := []) (h' := h1) rfl ?_ ?_
    · rfl
    · refine mX_to 1 (k' := 28) (ls' := [some (.ref 67), some (.int l1), some (.int l2), some (.int l3), o4]) (st' := [.int l1]) (h' := h1) rfl ?_
      refine mX_br (t := 33) (f := 29) (ls' := [some (.ref 67), some (.int l1), some (.int l2), some (.int l3), o4]) (st' := []) (h' := h1) rfl ?_ ?_
      · rfl
      · refine mX_to 1 (k' := 30) (ls' := [some (.ref 67), some (.int l1), some (.int l2), some (.int l3), o4]) (st' := [.ref 67]) (h' := h1) rfl ?_
        refine mX_ckct (m := mcl (mE mtab d 269 [.ref 67] h1) 1 31 [some (.ref 67), some (.int l1), some (.int l2), some (.int l3), o4] []) (k_67 L1) rfl ?_
        refine mk_cIe (o := F_X11_isBetter d h1) ?_
        intro x4 h3 eh3
        have L3 : lay h3 := lay_call d 269 [.ref 67] h1 _ h3 rfl eh3 L1
        refine mX_br (t := 32) (f := 33) (ls' := [some (.ref 67), some (.int l1), some (.int l2), some (.int l3), o4]) (st' := []) (h' := h3) rfl ?_ ?_
        · refine mX_to 1 (k' := 53) (ls' := [some (.ref 67), some (.int l1), some (.int l2), some (.int l3), o4]) (st' := []) (h' := h3) rfl ?_
          rfl
        · rfl
  · refine mX_to 1 (k' := 56) (ls' := [some (.ref 67), some (.int l1), some (.int l2), some (.int l3), o4]) (st' := [.int l1]) (h' := h) rfl ?_
    exact mX_retc rfl
theorem S_X11_isPaid_53 {h : MH} (L : lay h) (d : Nat) (l1 : Int32) (l2 : Int32) (l3 : Int32) (o4 : Option Value) : G_X11_isPaid_53 d l1 l2 l3 o4 h = G_X11_isPaid_20 d l1 l2 (l3 + 1) (o4) h := by
  refine mX_to 2 (k' := 20) (ls' := [some (.ref 67), some (.int l1), some (.int l2), some (.int (l3 + 1)), o4]) (st' := []) (h' := h) rfl ?_
  rfl
theorem S_X11_isPaid_33 {h : MH} (L : lay h) (d : Nat) (l1 : Int32) (l2 : Int32) (l3 : Int32) (o4 : Option Value) : G_X11_isPaid_33 d l1 l2 l3 o4 h = G_X11_isPaid_37 d 1 l2 l3 0 h := by
  refine mX_to 4 (k' := 37) (ls' := [some (.ref 67), some (.int 1), some (.int l2), some (.int l3), some (.int 0)]) (st' := []) (h' := h) rfl ?_
  rfl
theorem S_X11_isPaid_37 {h : MH} (L : lay h) (d : Nat) (l1 : Int32) (l2 : Int32) (l3 : Int32) (l4 : Int32) : G_X11_isPaid_37 d l1 l2 l3 l4 h = (if l4 < (gI h 68 1) then ck (ib l4 4) (ck (ib l4 4) (lt_ (sI h 81 (ix l4) (gI h 80 (ix l4))) fun h6 => G_X11_isPaid_37 d l1 l2 l3 (l4 + 1) h6)) else G_X11_isPaid_53 d l1 l2 l3 (some (.int l4)) h) := by
  refine mX_to 2 (k' := 39) (ls' := [some (.ref 67), some (.int l1), some (.int l2), some (.int l3), some (.int l4)]) (st' := [.ref 67, .int l4]) (h' := h) rfl ?_
  refine mX_ckv (v := .ref (gR h 67 0)) (v' := .ref 68) (k' := 40) (ls' := [some (.ref 67), some (.int l1), some (.int l2), some (.int l3), some (.int l4)]) (st' := [.int l4]) (h' := h) (k_67 L) (congrArg Value.ref (r_67_0 L)) rfl ?_
  refine mX_to 1 (k' := 41) (ls' := [some (.ref 67), some (.int l1), some (.int l2), some (.int l3), some (.int l4)]) (st' := [.int 1, .ref 68, .int l4]) (h' := h) rfl ?_
  refine mX_ckv (v := .int (gI h 68 (ix (1 : Int32)))) (v' := .int (gI h 68 1)) (k' := 42) (ls' := [some (.ref 67), some (.int l1), some (.int l2), some (.int l3), some (.int l4)]) (st' := [.int l4]) (h' := h) ((ckA1 (k_68 L) (n_68 L)).mpr (ib_lit (n := 1) rfl (by decide) (by decide))) (congrArg (fun j => Value.int (gI h 68 j)) (ix_lit (n := 1) rfl (by decide))) rfl ?_
  refine mX_br (t := 43) (f := 53) (ls' := [some (.ref 67), some (.int l1), some (.int l2), some (.int l3), some (.int l4)]) (st' := []) (h' := h) rfl ?_ ?_
  · refine mX_to 1 (k' := 44) (ls' := [some (.ref 67), some (.int l1), some (.int l2), some (.int l3), some (.int l4)]) (st' := [.ref 67]) (h' := h) rfl ?_
    refine mX_ckv (v := .ref (gR h 67 30)) (v' := .ref 81) (k' := 45) (ls' := [some (.ref 67), some (.int l1), some (.int l2), some (.int l3), some (.int l4)]) (st' := []) (h' := h) (k_67 L) (congrArg Value.ref (r_67_30 L)) rfl ?_
    refine mX_to 2 (k' := 47) (ls' := [some (.ref 67), some (.int l1), some (.int l2), some (.int l3), some (.int l4)]) (st' := [.ref 67, .int l4, .ref 81]) (h' := h) rfl ?_
    refine mX_ckv (v := .ref (gR h 67 29)) (v' := .ref 80) (k' := 48) (ls' := [some (.ref 67), some (.int l1), some (.int l2), some (.int l3), some (.int l4)]) (st' := [.int l4, .ref 81]) (h' := h) (k_67 L) (congrArg Value.ref (r_67_29 L)) rfl ?_
    refine mX_to 1 (k' := 49) (ls' := [some (.ref 67), some (.int l1), some (.int l2), some (.int l3), some (.int l4)]) (st' := [.int l4, .ref 80, .int l4, .ref 81]) (h' := h) rfl ?_
    refine mX_ckw (v := .int (gI h 80 (ix l4))) (v' := .int (gI h 80 (ix l4))) (k' := 50) (ls' := [some (.ref 67), some (.int l1), some (.int l2), some (.int l3), some (.int l4)]) (st' := [.int l4, .ref 81]) (h' := h) (ckA1 (k_80 L) (n_80 L)) rfl rfl fun c7 => ?_
    refine mX_cki (k' := 51) (ls' := [some (.ref 67), some (.int l1), some (.int l2), some (.int l3), some (.int l4)]) (st' := []) (h' := (sI h 81 (ix l4) (gI h 80 (ix l4)))) (ckA0 (k_81 L) (n_81 L)) rfl fun c5 => ?_
    refine lt_geq2 (X := fun h6 : MH => mX (mE mtab d) KX11_isPaid 51 [some (.ref 67), some (.int l1), some (.int l2), some (.int l3), some (.int l4)] [] h6) (a := (sI h 81 (ix l4) (gI h 80 (ix l4)))) (a' := (sI h 81 (ix l4) (gI h 80 (ix l4)))) rfl fun h6 eh6 => ?_
    have L6 : lay h6 := eh6 ▸ layI L (by decide)
    refine mX_to 2 (k' := 37) (ls' := [some (.ref 67), some (.int l1), some (.int l2), some (.int l3), some (.int (l4 + 1))]) (st' := []) (h' := h6) rfl ?_
    rfl
  · rfl
theorem S_X11_isPaid {h : MH} (L : lay h) (d : Nat) : F_X11_isPaid (d + 1) h = G_X11_isPaid_6 d 0 1 0 h := by
  refine mE_eq (q := (yX11_isPaid, cX11_isPaid, 5, (some .boolean), KX11_isPaid)) (C := KX11_isPaid) (ls := [some (.ref 67), none, none, none, none]) rfl rfl rfl rfl ?_
  refine mX_to 6 (k' := 6) (ls' := [some (.ref 67), some (.int 0), some (.int 1), some (.int 0), none]) (st' := []) (h' := h) rfl ?_
  rfl
theorem S_X11_paid {h : MH} (L : lay h) (d : Nat) (a1 : Int32) : F_X11_paid (d + 1) a1 h = cI (F_X11_isPaid d h) (fun x2 h1 => (if x2 = 0 then some (.int (-1), h1) else (if a1 = 0 then cI (F_X11_standing d 81 h1) (fun x4 h3 => some (.int x4, h3)) else cI (F_X11_standing d 81 h1) (fun x6 h5 => cI (F_X11_wageOf d x6 h5) (fun x8 h7 => some (.int x8, h7)))))) := by
  refine mE_eq (q := (yX11_paid, cX11_paid, 2, (some .int), KX11_paid)) (C := KX11_paid) (ls := [some (.ref 67), some (.int a1)]) rfl rfl rfl rfl ?_
  refine mX_to 1 (k' := 1) (ls' := [some (.ref 67), some (.int a1)]) (st' := [.ref 67]) (h' := h) rfl ?_
  refine mX_ckct (m := mcl (mE mtab d 270 [.ref 67] h) 1 2 [some (.ref 67), some (.int a1)] []) (k_67 L) rfl ?_
  refine mk_cIe (o := F_X11_isPaid d h) ?_
  intro x2 h1 eh1
  have L1 : lay h1 := lay_call d 270 [.ref 67] h _ h1 rfl eh1 L
  refine mX_br (t := 3) (f := 5) (ls' := [some (.ref 67), some (.int a1)]) (st' := []) (h' := h1) rfl ?_ ?_
  · refine mX_to 2 (k' := 18) (ls' := [some (.ref 67), some (.int a1)]) (st' := [.int (-1)]) (h' := h1) rfl ?_
    exact mX_reti rfl
  · refine mX_to 1 (k' := 6) (ls' := [some (.ref 67), some (.int a1)]) (st' := [.int a1]) (h' := h1) rfl ?_
    refine mX_br (t := 14) (f := 7) (ls' := [some (.ref 67), some (.int a1)]) (st' := []) (h' := h1) rfl ?_ ?_
    · refine mX_to 2 (k' := 16) (ls' := [some (.ref 67), some (.int a1)]) (st' := [.ref 67, .ref 67]) (h' := h1) rfl ?_
      refine mX_ckv (v := .ref (gR h1 67 30)) (v' := .ref 81) (k' := 17) (ls' := [some (.ref 67), some (.int a1)]) (st' := [.ref 67]) (h' := h1) (k_67 L1) (congrArg Value.ref (r_67_30 L1)) rfl ?_
      refine mX_ckct (m := mcl (mE mtab d 266 [.ref 67, .ref 81] h1) 1 18 [some (.ref 67), some (.int a1)] []) (k_67 L1) rfl ?_
      refine mk_cIe (o := F_X11_standing d 81 h1) ?_
      intro x4 h3 eh3
      have L3 : lay h3 := lay_call d 266 [.ref 67, .ref 81] h1 _ h3 rfl eh3 L1
      exact mX_reti rfl
    · refine mX_to 3 (k' := 10) (ls' := [some (.ref 67), some (.int a1)]) (st' := [.ref 67, .ref 67, .ref 67]) (h' := h1) rfl ?_
      refine mX_ckv (v := .ref (gR h1 67 30)) (v' := .ref 81) (k' := 11) (ls' := [some (.ref 67), some (.int a1)]) (st' := [.ref 67, .ref 67]) (h' := h1) (k_67 L1) (congrArg Value.ref (r_67_30 L1)) rfl ?_
      refine mX_ckct (m := mcl (mE mtab d 266 [.ref 67, .ref 81] h1) 1 12 [some (.ref 67), some (.int a1)] [.ref 67]) (k_67 L1) rfl ?_
      refine mk_cIe (o := F_X11_standing d 81 h1) ?_
      intro x6 h5 eh5
      have L5 : lay h5 := lay_call d 266 [.ref 67, .ref 81] h1 _ h5 rfl eh5 L1
      refine mX_ckct (m := mcl (mE mtab d 267 [.ref 67, .int x6] h5) 1 13 [some (.ref 67), some (.int a1)] []) (k_67 L5) rfl ?_
      refine mk_cIe (o := F_X11_wageOf d x6 h5) ?_
      intro x8 h7 eh7
      have L7 : lay h7 := lay_call d 267 [.ref 67, .int x6] h5 _ h7 rfl eh7 L5
      refine mX_to 1 (k' := 18) (ls' := [some (.ref 67), some (.int a1)]) (st' := [.int x8]) (h' := h7) rfl ?_
      exact mX_reti rfl
theorem S_X10_stand {h : MH} (L : lay h) (d : Nat) (a1 : Int32) : F_X10_stand (d + 1) a1 h = cI (F_X10_within d a1 0 ((gI h 19 3) - 1) h) (fun x2 h1 => (if x2 = 0 then some (.int (-1), h1) else cI (F_X9_tipNow d 10 h1) (fun x4 h3 => cI (F_X2_cheapest d x4 h3) (fun x6 h5 => (if x6 = (-1) then some (.int (-1), h5) else cI (F_X10_holds d x6 a1 h5) (fun x8 h7 => (if x8 = 0 then some (.int (-1), h7) else ck (ib a1 4) (some (.int (gI h7 22 (ix a1)), h7))))))))) := by
  refine mE_eq (q := (yX10_stand, cX10_stand, 3, (some .int), KX10_stand)) (C := KX10_stand) (ls := [some (.ref 8), some (.int a1), none]) rfl rfl rfl rfl ?_
  refine mX_to 3 (k' := 3) (ls' := [some (.ref 8), some (.int a1), none]) (st' := [.ref 8, .int 0, .int a1]) (h' := h) rfl ?_
  refine mX_ckv (v := .ref (gR h 8 0)) (v' := .ref 9) (k' := 4) (ls' := [some (.ref 8), some (.int a1), none]) (st' := [.int 0, .int a1]) (h' := h) (k_8 L) (congrArg Value.ref (r_8_0 L)) rfl ?_
  refine mX_ckv (v := .ref (gR h 9 2)) (v' := .ref 19) (k' := 5) (ls' := [some (.ref 8), some (.int a1), none]) (st' := [.int 0, .int a1]) (h' := h) (k_9 L) (congrArg Value.ref (r_9_2 L)) rfl ?_
  refine mX_ckv (v := .int (gI h 19 3)) (v' := .int (gI h 19 3)) (k' := 6) (ls' := [some (.ref 8), some (.int a1), none]) (st' := [.int 0, .int a1]) (h' := h) (k_19 L) rfl rfl ?_
  refine mX_to 2 (k' := 8) (ls' := [some (.ref 8), some (.int a1), none]) (st' := [.int ((gI h 19 3) - 1), .int 0, .int a1]) (h' := h) rfl ?_
  refine mX_cIe (o := F_X10_within d a1 0 ((gI h 19 3) - 1) h) (k' := 9) (ls' := [some (.ref 8), some (.int a1), none]) (st' := []) rfl ?_
  intro x2 h1 eh1
  have L1 : lay h1 := lay_call d 11 [.int a1, .int 0, .int ((gI h 19 3) - 1)] h _ h1 rfl eh1 L
  refine mX_br (t := 10) (f := 12) (ls' := [some (.ref 8), some (.int a1), none]) (st' := []) (h' := h1) rfl ?_ ?_
  · refine mX_to 1 (k' := 11) (ls' := [some (.ref 8), some (.int a1), none]) (st' := [.int (-1)]) (h' := h1) rfl ?_
    exact mX_reti rfl
  · refine mX_to 1 (k' := 13) (ls' := [some (.ref 8), some (.int a1), none]) (st' := [.ref 8]) (h' := h1) rfl ?_
    refine mX_ckv (v := .ref (gR h1 8 0)) (v' := .ref 9) (k' := 14) (ls' := [some (.ref 8), some (.int a1), none]) (st' := []) (h' := h1) (k_8 L1) (congrArg Value.ref (r_8_0 L1)) rfl ?_
    refine mX_ckv (v := .ref (gR h1 9 2)) (v' := .ref 19) (k' := 15) (ls' := [some (.ref 8), some (.int a1), none]) (st' := []) (h' := h1) (k_9 L1) (congrArg Value.ref (r_9_2 L1)) rfl ?_
    refine mX_to 1 (k' := 16) (ls' := [some (.ref 8), some (.int a1), none]) (st' := [.ref 8, .ref 19]) (h' := h1) rfl ?_
    refine mX_ckv (v := .ref (gR h1 8 0)) (v' := .ref 9) (k' := 17) (ls' := [some (.ref 8), some (.int a1), none]) (st' := [.ref 19]) (h' := h1) (k_8 L1) (congrArg Value.ref (r_8_0 L1)) rfl ?_
    refine mX_ckv (v := .ref (gR h1 9 0)) (v' := .ref 10) (k' := 18) (ls' := [some (.ref 8), some (.int a1), none]) (st' := [.ref 19]) (h' := h1) (k_9 L1) (congrArg Value.ref (r_9_0 L1)) rfl ?_
    refine mX_ckct (m := mcl (mE mtab d 139 [.ref 10] h1) 1 19 [some (.ref 8), some (.int a1), none] [.ref 19]) (k_10 L1) rfl ?_
    refine mk_cIe (o := F_X9_tipNow d 10 h1) ?_
    intro x4 h3 eh3
    have L3 : lay h3 := lay_call d 139 [.ref 10] h1 _ h3 rfl eh3 L1
    refine mX_ckct (m := mcl (mE mtab d 263 [.ref 19, .int x4] h3) 1 20 [some (.ref 8), some (.int a1), none] []) (k_19 L3) rfl ?_
    refine mk_cIe (o := F_X2_cheapest d x4 h3) ?_
    intro x6 h5 eh5
    have L5 : lay h5 := lay_call d 263 [.ref 19, .int x4] h3 _ h5 rfl eh5 L3
    refine mX_to 3 (k' := 23) (ls' := [some (.ref 8), some (.int a1), some (.int x6)]) (st' := [.int (-1), .int x6]) (h' := h5) rfl ?_
    refine mX_br (t := 28) (f := 24) (ls' := [some (.ref 8), some (.int a1), some (.int x6)]) (st' := []) (h' := h5) rfl ?_ ?_
    · refine mX_to 1 (k' := 29) (ls' := [some (.ref 8), some (.int a1), some (.int x6)]) (st' := [.int (-1)]) (h' := h5) rfl ?_
      exact mX_reti rfl
    · refine mX_to 2 (k' := 26) (ls' := [some (.ref 8), some (.int a1), some (.int x6)]) (st' := [.int a1, .int x6]) (h' := h5) rfl ?_
      refine mX_cIe (o := F_X10_holds d x6 a1 h5) (k' := 27) (ls' := [some (.ref 8), some (.int a1), some (.int x6)]) (st' := []) rfl ?_
      intro x8 h7 eh7
      have L7 : lay h7 := lay_call d 257 [.int x6, .int a1] h5 _ h7 rfl eh7 L5
      refine mX_br (t := 28) (f := 30) (ls' := [some (.ref 8), some (.int a1), some (.int x6)]) (st' := []) (h' := h7) rfl ?_ ?_
      · refine mX_to 1 (k' := 29) (ls' := [some (.ref 8), some (.int a1), some (.int x6)]) (st' := [.int (-1)]) (h' := h7) rfl ?_
        exact mX_reti rfl
      · refine mX_to 1 (k' := 31) (ls' := [some (.ref 8), some (.int a1), some (.int x6)]) (st' := [.ref 8]) (h' := h7) rfl ?_
        refine mX_ckv (v := .ref (gR h7 8 0)) (v' := .ref 9) (k' := 32) (ls' := [some (.ref 8), some (.int a1), some (.int x6)]) (st' := []) (h' := h7) (k_8 L7) (congrArg Value.ref (r_8_0 L7)) rfl ?_
        refine mX_ckv (v := .ref (gR h7 9 2)) (v' := .ref 19) (k' := 33) (ls' := [some (.ref 8), some (.int a1), some (.int x6)]) (st' := []) (h' := h7) (k_9 L7) (congrArg Value.ref (r_9_2 L7)) rfl ?_
        refine mX_ckv (v := .ref (gR h7 19 2)) (v' := .ref 22) (k' := 34) (ls' := [some (.ref 8), some (.int a1), some (.int x6)]) (st' := []) (h' := h7) (k_19 L7) (congrArg Value.ref (r_19_2 L7)) rfl ?_
        refine mX_to 1 (k' := 35) (ls' := [some (.ref 8), some (.int a1), some (.int x6)]) (st' := [.int a1, .ref 22]) (h' := h7) rfl ?_
        refine mX_ckw (v := .int (gI h7 22 (ix a1))) (v' := .int (gI h7 22 (ix a1))) (k' := 36) (ls' := [some (.ref 8), some (.int a1), some (.int x6)]) (st' := []) (h' := h7) (ckA1 (k_22 L7) (n_22 L7)) rfl rfl fun c9 => ?_
        exact mX_reti rfl
theorem S_X11_stand {h : MH} (L : lay h) (d : Nat) (a1 : Int32) : F_X11_stand (d + 1) a1 h = cI (F_X11_isIn d a1 0 ((gI h 68 1) - 1) h) (fun x2 h1 => (if x2 = 0 then some (.int (-1), h1) else cI (F_X11_isPaid d h1) (fun x4 h3 => (if x4 = 0 then some (.int (-1), h3) else ck (ib a1 4) ((if (gI h3 81 (ix a1)) < 9 then ck (ib a1 4) (some (.int (gI h3 81 (ix a1)), h3)) else some (.int (-1), h3))))))) := by
  refine mE_eq (q := (yX11_stand, cX11_stand, 2, (some .int), KX11_stand)) (C := KX11_stand) (ls := [some (.ref 67), some (.int a1)]) rfl rfl rfl rfl ?_
  refine mX_to 3 (k' := 3) (ls' := [some (.ref 67), some (.int a1)]) (st' := [.ref 67, .int 0, .int a1]) (h' := h) rfl ?_
  refine mX_ckv (v := .ref (gR h 67 0)) (v' := .ref 68) (k' := 4) (ls' := [some (.ref 67), some (.int a1)]) (st' := [.int 0, .int a1]) (h' := h) (k_67 L) (congrArg Value.ref (r_67_0 L)) rfl ?_
  refine mX_to 1 (k' := 5) (ls' := [some (.ref 67), some (.int a1)]) (st' := [.int 1, .ref 68, .int 0, .int a1]) (h' := h) rfl ?_
  refine mX_ckv (v := .int (gI h 68 (ix (1 : Int32)))) (v' := .int (gI h 68 1)) (k' := 6) (ls' := [some (.ref 67), some (.int a1)]) (st' := [.int 0, .int a1]) (h' := h) ((ckA1 (k_68 L) (n_68 L)).mpr (ib_lit (n := 1) rfl (by decide) (by decide))) (congrArg (fun j => Value.int (gI h 68 j)) (ix_lit (n := 1) rfl (by decide))) rfl ?_
  refine mX_to 2 (k' := 8) (ls' := [some (.ref 67), some (.int a1)]) (st' := [.int ((gI h 68 1) - 1), .int 0, .int a1]) (h' := h) rfl ?_
  refine mX_cIe (o := F_X11_isIn d a1 0 ((gI h 68 1) - 1) h) (k' := 9) (ls' := [some (.ref 67), some (.int a1)]) (st' := []) rfl ?_
  intro x2 h1 eh1
  have L1 : lay h1 := lay_call d 14 [.int a1, .int 0, .int ((gI h 68 1) - 1)] h _ h1 rfl eh1 L
  refine mX_br (t := 24) (f := 10) (ls' := [some (.ref 67), some (.int a1)]) (st' := []) (h' := h1) rfl ?_ ?_
  · refine mX_to 1 (k' := 25) (ls' := [some (.ref 67), some (.int a1)]) (st' := [.int (-1)]) (h' := h1) rfl ?_
    exact mX_reti rfl
  · refine mX_to 1 (k' := 11) (ls' := [some (.ref 67), some (.int a1)]) (st' := [.ref 67]) (h' := h1) rfl ?_
    refine mX_ckct (m := mcl (mE mtab d 270 [.ref 67] h1) 1 12 [some (.ref 67), some (.int a1)] []) (k_67 L1) rfl ?_
    refine mk_cIe (o := F_X11_isPaid d h1) ?_
    intro x4 h3 eh3
    have L3 : lay h3 := lay_call d 270 [.ref 67] h1 _ h3 rfl eh3 L1
    refine mX_br (t := 24) (f := 13) (ls' := [some (.ref 67), some (.int a1)]) (st' := []) (h' := h3) rfl ?_ ?_
    · refine mX_to 1 (k' := 25) (ls' := [some (.ref 67), some (.int a1)]) (st' := [.int (-1)]) (h' := h3) rfl ?_
      exact mX_reti rfl
    · refine mX_to 1 (k' := 14) (ls' := [some (.ref 67), some (.int a1)]) (st' := [.ref 67]) (h' := h3) rfl ?_
      refine mX_ckv (v := .ref (gR h3 67 30)) (v' := .ref 81) (k' := 15) (ls' := [some (.ref 67), some (.int a1)]) (st' := []) (h' := h3) (k_67 L3) (congrArg Value.ref (r_67_30 L3)) rfl ?_
      refine mX_to 1 (k' := 16) (ls' := [some (.ref 67), some (.int a1)]) (st' := [.int a1, .ref 81]) (h' := h3) rfl ?_
      refine mX_ckw (v := .int (gI h3 81 (ix a1))) (v' := .int (gI h3 81 (ix a1))) (k' := 17) (ls' := [some (.ref 67), some (.int a1)]) (st' := []) (h' := h3) (ckA1 (k_81 L3) (n_81 L3)) rfl rfl fun c6 => ?_
      refine mX_to 1 (k' := 18) (ls' := [some (.ref 67), some (.int a1)]) (st' := [.int 9, .int (gI h3 81 (ix a1))]) (h' := h3) rfl ?_
      refine mX_br (t := 19) (f := 24) (ls' := [some (.ref 67), some (.int a1)]) (st' := []) (h' := h3) rfl ?_ ?_
      · refine mX_to 1 (k' := 20) (ls' := [some (.ref 67), some (.int a1)]) (st' := [.ref 67]) (h' := h3) rfl ?_
        refine mX_ckv (v := .ref (gR h3 67 30)) (v' := .ref 81) (k' := 21) (ls' := [some (.ref 67), some (.int a1)]) (st' := []) (h' := h3) (k_67 L3) (congrArg Value.ref (r_67_30 L3)) rfl ?_
        refine mX_to 1 (k' := 22) (ls' := [some (.ref 67), some (.int a1)]) (st' := [.int a1, .ref 81]) (h' := h3) rfl ?_
        refine mX_ckw (v := .int (gI h3 81 (ix a1))) (v' := .int (gI h3 81 (ix a1))) (k' := 23) (ls' := [some (.ref 67), some (.int a1)]) (st' := []) (h' := h3) (ckA1 (k_81 L3) (n_81 L3)) rfl rfl fun c5 => ?_
        refine mX_to 1 (k' := 25) (ls' := [some (.ref 67), some (.int a1)]) (st' := [.int (gI h3 81 (ix a1))]) (h' := h3) rfl ?_
        exact mX_reti rfl
      · refine mX_to 1 (k' := 25) (ls' := [some (.ref 67), some (.int a1)]) (st' := [.int (-1)]) (h' := h3) rfl ?_
        exact mX_reti rfl
theorem S_X10_cat_25 {h : MH} (L : lay h) (d : Nat) (l1 : Int32) (l2 : Int32) (l3 : Int32) (l4 : Int32) (l5 : Int32) (l6 : Int32) (o7 : Option Value) : G_X10_cat_25 d l1 l2 l3 l4 l5 l6 o7 h = (if l6 ≤ 9 then G_X10_cat_30 d l1 l2 l3 l4 l5 l6 0 h else (if l2 = 0 then some (.int l4, h) else some (.int l5, h))) := by
  refine mX_to 2 (k' := 27) (ls' := [some (.ref 8), some (.int l1), some (.int l2), some (.int l3), some (.int l4), some (.int l5), some (.int l6), o7]) (st' := [.int 9, .int l6]) (h' := h) rfl ?_
  refine mX_br (t := 28) (f := 56) (ls' := [some (.ref 8), some (.int l1), some (.int l2), some (.int l3), some (.int l4), some (.int l5), some (.int l6), o7]) (st' := []) (h' := h) rfl ?_ ?_
  · refine mX_to 2 (k' := 30) (ls' := [some (.ref 8), some (.int l1), some (.int l2), some (.int l3), some (.int l4), some (.int l5), some (.int l6), some (.int 0)]) (st' := []) (h' := h) rfl ?_
    rfl
  · refine mX_to 1 (k' := 57) (ls' := [some (.ref 8), some (.int l1), some (.int l2), some (.int l3), some (.int l4), some (.int l5), some (.int l6), o7]) (st' := [.int l2]) (h' := h) rfl ?_
    refine mX_br (t := 58) (f := 60) (ls' := [some (.ref 8), some (.int l1), some (.int l2), some (.int l3), some (.int l4), some (.int l5), some (.int l6), o7]) (st' := []) (h' := h) rfl ?_ ?_
    · refine mX_to 2 (k' := 61) (ls' := [some (.ref 8), some (.int l1), some (.int l2), some (.int l3), some (.int l4), some (.int l5), some (.int l6), o7]) (st' := [.int l4]) (h' := h) rfl ?_
      exact mX_reti rfl
    · refine mX_to 1 (k' := 61) (ls' := [some (.ref 8), some (.int l1), some (.int l2), some (.int l3), some (.int l4), some (.int l5), some (.int l6), o7]) (st' := [.int l5]) (h' := h) rfl ?_
      exact mX_reti rfl
theorem S_X10_cat_30 {h : MH} (L : lay h) (d : Nat) (l1 : Int32) (l2 : Int32) (l3 : Int32) (l4 : Int32) (l5 : Int32) (l6 : Int32) (l7 : Int32) : G_X10_cat_30 d l1 l2 l3 l4 l5 l6 l7 h = (if l7 < 9 then (if (l6 * (l7 - 4)) = l3 then (if l5 = (-1) then G_X10_cat_51 d l1 l2 l3 (l4 + 1) l5 l6 l7 ((10 * l6) + l7) h else G_X10_cat_51 d l1 l2 l3 (l4 + 1) l5 l6 l7 l5 h) else G_X10_cat_52 d l1 l2 l3 l4 l5 l6 l7 h) else G_X10_cat_25 d l1 l2 l3 l4 l5 (l6 + 1) (some (.int l7)) h) := by
  refine mX_to 2 (k' := 32) (ls' := [some (.ref 8), some (.int l1), some (.int l2), some (.int l3), some (.int l4), some (.int l5), some (.int l6), some (.int l7)]) (st' := [.int 9, .int l7]) (h' := h) rfl ?_
  refine mX_br (t := 33) (f := 54) (ls' := [some (.ref 8), some (.int l1), some (.int l2), some (.int l3), some (.int l4), some (.int l5), some (.int l6), some (.int l7)]) (st' := []) (h' := h) rfl ?_ ?_
  · refine mX_to 6 (k' := 39) (ls' := [some (.ref 8), some (.int l1), some (.int l2), some (.int l3), some (.int l4), some (.int l5), some (.int l6), some (.int l7)]) (st' := [.int l3, .int (l6 * (l7 - 4))]) (h' := h) rfl ?_
    refine mX_br (t := 40) (f := 52) (ls' := [some (.ref 8), some (.int l1), some (.int l2), some (.int l3), some (.int l4), some (.int l5), some (.int l6), some (.int l7)]) (st' := []) (h' := h) rfl ?_ ?_
    · refine mX_to 3 (k' := 43) (ls' := [some (.ref 8), some (.int l1), some (.int l2), some (.int l3), some (.int (l4 + 1)), some (.int l5), some (.int l6), some (.int l7)]) (st' := [.int (-1), .int l5]) (h' := h) rfl ?_
      refine mX_br (t := 44) (f := 50) (ls' := [some (.ref 8), some (.int l1), some (.int l2), some (.int l3), some (.int (l4 + 1)), some (.int l5), some (.int l6), some (.int l7)]) (st' := []) (h' := h) rfl ?_ ?_
      · refine mX_to 6 (k' := 51) (ls' := [some (.ref 8), some (.int l1), some (.int l2), some (.int l3), some (.int (l4 + 1)), some (.int l5), some (.int l6), some (.int l7)]) (st' := [.int ((10 * l6) + l7)]) (h' := h) rfl ?_
        rfl
      · refine mX_to 1 (k' := 51) (ls' := [some (.ref 8), some (.int l1), some (.int l2), some (.int l3), some (.int (l4 + 1)), some (.int l5), some (.int l6), some (.int l7)]) (st' := [.int l5]) (h' := h) rfl ?_
        rfl
    · rfl
  · refine mX_to 2 (k' := 25) (ls' := [some (.ref 8), some (.int l1), some (.int l2), some (.int l3), some (.int l4), some (.int l5), some (.int (l6 + 1)), some (.int l7)]) (st' := []) (h' := h) rfl ?_
    rfl
theorem S_X10_cat_51 {h : MH} (L : lay h) (d : Nat) (l1 : Int32) (l2 : Int32) (l3 : Int32) (l4 : Int32) (l5 : Int32) (l6 : Int32) (l7 : Int32) (s0 : Int32) : G_X10_cat_51 d l1 l2 l3 l4 l5 l6 l7 s0 h = G_X10_cat_52 d l1 l2 l3 l4 s0 l6 l7 h := by
  refine mX_to 1 (k' := 52) (ls' := [some (.ref 8), some (.int l1), some (.int l2), some (.int l3), some (.int l4), some (.int s0), some (.int l6), some (.int l7)]) (st' := []) (h' := h) rfl ?_
  rfl
theorem S_X10_cat_52 {h : MH} (L : lay h) (d : Nat) (l1 : Int32) (l2 : Int32) (l3 : Int32) (l4 : Int32) (l5 : Int32) (l6 : Int32) (l7 : Int32) : G_X10_cat_52 d l1 l2 l3 l4 l5 l6 l7 h = G_X10_cat_30 d l1 l2 l3 l4 l5 l6 (l7 + 1) h := by
  refine mX_to 2 (k' := 30) (ls' := [some (.ref 8), some (.int l1), some (.int l2), some (.int l3), some (.int l4), some (.int l5), some (.int l6), some (.int (l7 + 1))]) (st' := []) (h' := h) rfl ?_
  rfl
theorem S_X10_cat {h : MH} (L : lay h) (d : Nat) (a1 : Int32) (a2 : Int32) : F_X10_cat (d + 1) a1 a2 h = cI (F_X10_within d a1 (-400) 400 h) (fun x2 h1 => (if x2 = 0 then some (.int (-1), h1) else cI (F_X10_within d a2 0 1 h1) (fun x4 h3 => (if x4 = 0 then some (.int (-1), h3) else cI (F_X9_tipNow d 10 h3) (fun x6 h5 => G_X10_cat_25 d a1 a2 (a1 - x6) 0 (-1) 1 none h5))))) := by
  refine mE_eq (q := (yX10_cat, cX10_cat, 8, (some .int), KX10_cat)) (C := KX10_cat) (ls := [some (.ref 8), some (.int a1), some (.int a2), none, none, none, none, none]) rfl rfl rfl rfl ?_
  refine mX_to 3 (k' := 3) (ls' := [some (.ref 8), some (.int a1), some (.int a2), none, none, none, none, none]) (st' := [.int 400, .int (-400), .int a1]) (h' := h) rfl ?_
  refine mX_cIe (o := F_X10_within d a1 (-400) 400 h) (k' := 4) (ls' := [some (.ref 8), some (.int a1), some (.int a2), none, none, none, none, none]) (st' := []) rfl ?_
  intro x2 h1 eh1
  have L1 : lay h1 := lay_call d 11 [.int a1, .int (-400), .int 400] h _ h1 rfl eh1 L
  refine mX_br (t := 10) (f := 5) (ls' := [some (.ref 8), some (.int a1), some (.int a2), none, none, none, none, none]) (st' := []) (h' := h1) rfl ?_ ?_
  · refine mX_to 1 (k' := 11) (ls' := [some (.ref 8), some (.int a1), some (.int a2), none, none, none, none, none]) (st' := [.int (-1)]) (h' := h1) rfl ?_
    exact mX_reti rfl
  · refine mX_to 3 (k' := 8) (ls' := [some (.ref 8), some (.int a1), some (.int a2), none, none, none, none, none]) (st' := [.int 1, .int 0, .int a2]) (h' := h1) rfl ?_
    refine mX_cIe (o := F_X10_within d a2 0 1 h1) (k' := 9) (ls' := [some (.ref 8), some (.int a1), some (.int a2), none, none, none, none, none]) (st' := []) rfl ?_
    intro x4 h3 eh3
    have L3 : lay h3 := lay_call d 11 [.int a2, .int 0, .int 1] h1 _ h3 rfl eh3 L1
    refine mX_br (t := 10) (f := 12) (ls' := [some (.ref 8), some (.int a1), some (.int a2), none, none, none, none, none]) (st' := []) (h' := h3) rfl ?_ ?_
    · refine mX_to 1 (k' := 11) (ls' := [some (.ref 8), some (.int a1), some (.int a2), none, none, none, none, none]) (st' := [.int (-1)]) (h' := h3) rfl ?_
      exact mX_reti rfl
    · refine mX_to 2 (k' := 14) (ls' := [some (.ref 8), some (.int a1), some (.int a2), none, none, none, none, none]) (st' := [.ref 8, .int a1]) (h' := h3) rfl ?_
      refine mX_ckv (v := .ref (gR h3 8 0)) (v' := .ref 9) (k' := 15) (ls' := [some (.ref 8), some (.int a1), some (.int a2), none, none, none, none, none]) (st' := [.int a1]) (h' := h3) (k_8 L3) (congrArg Value.ref (r_8_0 L3)) rfl ?_
      refine mX_ckv (v := .ref (gR h3 9 0)) (v' := .ref 10) (k' := 16) (ls' := [some (.ref 8), some (.int a1), some (.int a2), none, none, none, none, none]) (st' := [.int a1]) (h' := h3) (k_9 L3) (congrArg Value.ref (r_9_0 L3)) rfl ?_
      refine mX_ckct (m := mcl (mE mtab d 139 [.ref 10] h3) 1 17 [some (.ref 8), some (.int a1), some (.int a2), none, none, none, none, none] [.int a1]) (k_10 L3) rfl ?_
      refine mk_cIe (o := F_X9_tipNow d 10 h3) ?_
      intro x6 h5 eh5
      have L5 : lay h5 := lay_call d 139 [.ref 10] h3 _ h5 rfl eh5 L3
      refine mX_to 8 (k' := 25) (ls' := [some (.ref 8), some (.int a1), some (.int a2), some (.int (a1 - x6)), some (.int 0), some (.int (-1)), some (.int 1), none]) (st' := []) (h' := h5) rfl ?_
      rfl
theorem S_X11_cat_16 {h : MH} (L : lay h) (d : Nat) (l1 : Int32) (l2 : Int32) (l3 : Int32) (l4 : Int32) (o5 : Option Value) : G_X11_cat_16 d l1 l2 l3 l4 o5 h = (if l4 < 10 then G_X11_cat_21 d l1 l2 l3 l4 0 h else (if l2 = 1 then some (.int (-1), h) else some (.int l3, h))) := by
  refine mX_to 2 (k' := 18) (ls' := [some (.ref 67), some (.int l1), some (.int l2), some (.int l3), some (.int l4), o5]) (st' := [.int 10, .int l4]) (h' := h) rfl ?_
  refine mX_br (t := 19) (f := 49) (ls' := [some (.ref 67), some (.int l1), some (.int l2), some (.int l3), some (.int l4), o5]) (st' := []) (h' := h) rfl ?_ ?_
  · refine mX_to 2 (k' := 21) (ls' := [some (.ref 67), some (.int l1), some (.int l2), some (.int l3), some (.int l4), some (.int 0)]) (st' := []) (h' := h) rfl ?_
    rfl
  · refine mX_to 2 (k' := 51) (ls' := [some (.ref 67), some (.int l1), some (.int l2), some (.int l3), some (.int l4), o5]) (st' := [.int 1, .int l2]) (h' := h) rfl ?_
    refine mX_br (t := 52) (f := 54) (ls' := [some (.ref 67), some (.int l1), some (.int l2), some (.int l3), some (.int l4), o5]) (st' := []) (h' := h) rfl ?_ ?_
    · refine mX_to 2 (k' := 55) (ls' := [some (.ref 67), some (.int l1), some (.int l2), some (.int l3), some (.int l4), o5]) (st' := [.int (-1)]) (h' := h) rfl ?_
      exact mX_reti rfl
    · refine mX_to 1 (k' := 55) (ls' := [some (.ref 67), some (.int l1), some (.int l2), some (.int l3), some (.int l4), o5]) (st' := [.int l3]) (h' := h) rfl ?_
      exact mX_reti rfl
theorem S_X11_cat_21 {h : MH} (L : lay h) (d : Nat) (l1 : Int32) (l2 : Int32) (l3 : Int32) (l4 : Int32) (l5 : Int32) : G_X11_cat_21 d l1 l2 l3 l4 l5 h = (if l5 < 9 then cI (F_X11_tipNow d h) (fun x6 h5 => (if (x6 + (l4 * (l5 - 4))) = l1 then (if l2 = 1 then some (.int ((10 * l4) + l5), h5) else G_X11_cat_45 d l1 l2 (l3 + 1) l4 l5 h5) else G_X11_cat_45 d l1 l2 l3 l4 l5 h5)) else G_X11_cat_16 d l1 l2 l3 (l4 + 1) (some (.int l5)) h) := by
  refine mX_to 2 (k' := 23) (ls' := [some (.ref 67), some (.int l1), some (.int l2), some (.int l3), some (.int l4), some (.int l5)]) (st' := [.int 9, .int l5]) (h' := h) rfl ?_
  refine mX_br (t := 24) (f := 47) (ls' := [some (.ref 67), some (.int l1), some (.int l2), some (.int l3), some (.int l4), some (.int l5)]) (st' := []) (h' := h) rfl ?_ ?_
  · refine mX_to 1 (k' := 25) (ls' := [some (.ref 67), some (.int l1), some (.int l2), some (.int l3), some (.int l4), some (.int l5)]) (st' := [.ref 67]) (h' := h) rfl ?_
    refine mX_ckct (m := mcl (mE mtab d 156 [.ref 67] h) 1 26 [some (.ref 67), some (.int l1), some (.int l2), some (.int l3), some (.int l4), some (.int l5)] []) (k_67 L) rfl ?_
    refine mk_cIe (o := F_X11_tipNow d h) ?_
    intro x6 h5 eh5
    have L5 : lay h5 := lay_call d 156 [.ref 67] h _ h5 rfl eh5 L
    refine mX_to 7 (k' := 33) (ls' := [some (.ref 67), some (.int l1), some (.int l2), some (.int l3), some (.int l4), some (.int l5)]) (st' := [.int l1, .int (x6 + (l4 * (l5 - 4)))]) (h' := h5) rfl ?_
    refine mX_br (t := 35) (f := 34) (ls' := [some (.ref 67), some (.int l1), some (.int l2), some (.int l3), some (.int l4), some (.int l5)]) (st' := []) (h' := h5) rfl ?_ ?_
    · refine mX_to 2 (k' := 37) (ls' := [some (.ref 67), some (.int l1), some (.int l2), some (.int l3), some (.int l4), some (.int l5)]) (st' := [.int 1, .int l2]) (h' := h5) rfl ?_
      refine mX_br (t := 38) (f := 44) (ls' := [some (.ref 67), some (.int l1), some (.int l2), some (.int l3), some (.int l4), some (.int l5)]) (st' := []) (h' := h5) rfl ?_ ?_
      · refine mX_to 5 (k' := 43) (ls' := [some (.ref 67), some (.int l1), some (.int l2), some (.int l3), some (.int l4), some (.int l5)]) (st' := [.int ((10 * l4) + l5)]) (h' := h5) rfl ?_
        exact mX_reti rfl
      · refine mX_to 1 (k' := 45) (ls' := [some (.ref 67), some (.int l1), some (.int l2), some (.int (l3 + 1)), some (.int l4), some (.int l5)]) (st' := []) (h' := h5) rfl ?_
        rfl
    · refine mX_to 1 (k' := 45) (ls' := [some (.ref 67), some (.int l1), some (.int l2), some (.int l3), some (.int l4), some (.int l5)]) (st' := []) (h' := h5) rfl ?_
      rfl
  · refine mX_to 2 (k' := 16) (ls' := [some (.ref 67), some (.int l1), some (.int l2), some (.int l3), some (.int (l4 + 1)), some (.int l5)]) (st' := []) (h' := h) rfl ?_
    rfl
theorem S_X11_cat_45 {h : MH} (L : lay h) (d : Nat) (l1 : Int32) (l2 : Int32) (l3 : Int32) (l4 : Int32) (l5 : Int32) : G_X11_cat_45 d l1 l2 l3 l4 l5 h = G_X11_cat_21 d l1 l2 l3 l4 (l5 + 1) h := by
  refine mX_to 2 (k' := 21) (ls' := [some (.ref 67), some (.int l1), some (.int l2), some (.int l3), some (.int l4), some (.int (l5 + 1))]) (st' := []) (h' := h) rfl ?_
  rfl
theorem S_X11_cat {h : MH} (L : lay h) (d : Nat) (a1 : Int32) (a2 : Int32) : F_X11_cat (d + 1) a1 a2 h = cI (F_X11_isIn d a1 (-400) 400 h) (fun x2 h1 => (if x2 = 0 then some (.int (-1), h1) else cI (F_X11_isIn d a2 0 1 h1) (fun x4 h3 => (if x4 = 0 then some (.int (-1), h3) else G_X11_cat_16 d a1 a2 0 1 none h3)))) := by
  refine mE_eq (q := (yX11_cat, cX11_cat, 6, (some .int), KX11_cat)) (C := KX11_cat) (ls := [some (.ref 67), some (.int a1), some (.int a2), none, none, none]) rfl rfl rfl rfl ?_
  refine mX_to 3 (k' := 3) (ls' := [some (.ref 67), some (.int a1), some (.int a2), none, none, none]) (st' := [.int 400, .int (-400), .int a1]) (h' := h) rfl ?_
  refine mX_cIe (o := F_X11_isIn d a1 (-400) 400 h) (k' := 4) (ls' := [some (.ref 67), some (.int a1), some (.int a2), none, none, none]) (st' := []) rfl ?_
  intro x2 h1 eh1
  have L1 : lay h1 := lay_call d 14 [.int a1, .int (-400), .int 400] h _ h1 rfl eh1 L
  refine mX_br (t := 10) (f := 5) (ls' := [some (.ref 67), some (.int a1), some (.int a2), none, none, none]) (st' := []) (h' := h1) rfl ?_ ?_
  · refine mX_to 1 (k' := 11) (ls' := [some (.ref 67), some (.int a1), some (.int a2), none, none, none]) (st' := [.int (-1)]) (h' := h1) rfl ?_
    exact mX_reti rfl
  · refine mX_to 3 (k' := 8) (ls' := [some (.ref 67), some (.int a1), some (.int a2), none, none, none]) (st' := [.int 1, .int 0, .int a2]) (h' := h1) rfl ?_
    refine mX_cIe (o := F_X11_isIn d a2 0 1 h1) (k' := 9) (ls' := [some (.ref 67), some (.int a1), some (.int a2), none, none, none]) (st' := []) rfl ?_
    intro x4 h3 eh3
    have L3 : lay h3 := lay_call d 14 [.int a2, .int 0, .int 1] h1 _ h3 rfl eh3 L1
    refine mX_br (t := 10) (f := 12) (ls' := [some (.ref 67), some (.int a1), some (.int a2), none, none, none]) (st' := []) (h' := h3) rfl ?_ ?_
    · refine mX_to 1 (k' := 11) (ls' := [some (.ref 67), some (.int a1), some (.int a2), none, none, none]) (st' := [.int (-1)]) (h' := h3) rfl ?_
      exact mX_reti rfl
    · refine mX_to 4 (k' := 16) (ls' := [some (.ref 67), some (.int a1), some (.int a2), some (.int 0), some (.int 1), none]) (st' := []) (h' := h3) rfl ?_
      rfl
theorem S_X1_canLeave {h : MH} (L : lay h) (d : Nat) (a1 : Int32) (a2 : Int32) : F_X1_canLeave (d + 1) a1 a2 h = cI (F_X10_holds d a1 a2 h) (fun x2 h1 => (if x2 = 0 then some (.int 0, h1) else ck (ib (a1 - (1 <<< (a2 &&& 31))) 16) ((if (jabs (gI h1 64 (ix (a1 - (1 <<< (a2 &&& 31)))))) ≤ (gI h1 63 3) then some (.int 1, h1) else some (.int 0, h1))))) := by
  refine mE_eq (q := (yX1_canLeave, cX1_canLeave, 3, (some .boolean), KX1_canLeave)) (C := KX1_canLeave) (ls := [some (.ref 63), some (.int a1), some (.int a2)]) rfl rfl rfl rfl ?_
  refine mX_to 2 (k' := 2) (ls' := [some (.ref 63), some (.int a1), some (.int a2)]) (st' := [.int a2, .int a1]) (h' := h) rfl ?_
  refine mX_cIe (o := F_X10_holds d a1 a2 h) (k' := 3) (ls' := [some (.ref 63), some (.int a1), some (.int a2)]) (st' := []) rfl ?_
  intro x2 h1 eh1
  have L1 : lay h1 := lay_call d 257 [.int a1, .int a2] h _ h1 rfl eh1 L
  refine mX_br (t := 18) (f := 4) (ls' := [some (.ref 63), some (.int a1), some (.int a2)]) (st' := []) (h' := h1) rfl ?_ ?_
  · refine mX_to 1 (k' := 19) (ls' := [some (.ref 63), some (.int a1), some (.int a2)]) (st' := [.int 0]) (h' := h1) rfl ?_
    exact mX_retb (by decide) rfl
  · refine mX_to 1 (k' := 5) (ls' := [some (.ref 63), some (.int a1), some (.int a2)]) (st' := [.ref 63]) (h' := h1) rfl ?_
    refine mX_ckv (v := .ref (gR h1 63 0)) (v' := .ref 64) (k' := 6) (ls' := [some (.ref 63), some (.int a1), some (.int a2)]) (st' := []) (h' := h1) (k_63 L1) (congrArg Value.ref (r_63_0 L1)) rfl ?_
    refine mX_to 5 (k' := 11) (ls' := [some (.ref 63), some (.int a1), some (.int a2)]) (st' := [.int (a1 - (1 <<< (a2 &&& 31))), .ref 64]) (h' := h1) rfl ?_
    refine mX_ckw (v := .int (gI h1 64 (ix (a1 - (1 <<< (a2 &&& 31)))))) (v' := .int (gI h1 64 (ix (a1 - (1 <<< (a2 &&& 31)))))) (k' := 12) (ls' := [some (.ref 63), some (.int a1), some (.int a2)]) (st' := []) (h' := h1) (ckA1 (k_64 L1) (n_64 L1)) rfl rfl fun c3 => ?_
    refine mX_to 2 (k' := 14) (ls' := [some (.ref 63), some (.int a1), some (.int a2)]) (st' := [.ref 63, .int (jabs (gI h1 64 (ix (a1 - (1 <<< (a2 &&& 31))))))]) (h' := h1) rfl ?_
    refine mX_ckv (v := .int (gI h1 63 3)) (v' := .int (gI h1 63 3)) (k' := 15) (ls' := [some (.ref 63), some (.int a1), some (.int a2)]) (st' := [.int (jabs (gI h1 64 (ix (a1 - (1 <<< (a2 &&& 31))))))]) (h' := h1) (k_63 L1) rfl rfl ?_
    refine mX_br (t := 16) (f := 18) (ls' := [some (.ref 63), some (.int a1), some (.int a2)]) (st' := []) (h' := h1) rfl ?_ ?_
    · refine mX_to 2 (k' := 19) (ls' := [some (.ref 63), some (.int a1), some (.int a2)]) (st' := [.int 1]) (h' := h1) rfl ?_
      exact mX_retb (by decide) rfl
    · refine mX_to 1 (k' := 19) (ls' := [some (.ref 63), some (.int a1), some (.int a2)]) (st' := [.int 0]) (h' := h1) rfl ?_
      exact mX_retb (by decide) rfl
theorem S_X1_judge_8 {h : MH} (L : lay h) (d : Nat) (l1 : Int32) (s0 : Int64) (s1 : Int32) : G_X1_judge_8 d l1 s0 s1 h = ck (ib s1 16) (lt_ (sL h 65 (ix s1) s0) fun h2 => ck (ib l1 16) (lt_ (sI h2 66 (ix l1) 0) fun h4 => G_X1_judge_16 d l1 0 none h4)) := by
  refine mX_cki (k' := 9) (ls' := [some (.ref 63), some (.int l1), none, none]) (st' := []) (h' := (sL h 65 (ix s1) s0)) (ckA0 (k_65 L) (n_65 L)) rfl fun c1 => ?_
  refine lt_geq2 (X := fun h2 : MH => mX (mE mtab d) KX1_judge 9 [some (.ref 63), some (.int l1), none, none] [] h2) (a := (sL h 65 (ix s1) s0)) (a' := (sL h 65 (ix s1) s0)) rfl fun h2 eh2 => ?_
  have L2 : lay h2 := eh2 ▸ layL L
  refine mX_to 1 (k' := 10) (ls' := [some (.ref 63), some (.int l1), none, none]) (st' := [.ref 63]) (h' := h2) rfl ?_
  refine mX_ckv (v := .ref (gR h2 63 2)) (v' := .ref 66) (k' := 11) (ls' := [some (.ref 63), some (.int l1), none, none]) (st' := []) (h' := h2) (k_63 L2) (congrArg Value.ref (r_63_2 L2)) rfl ?_
  refine mX_to 2 (k' := 13) (ls' := [some (.ref 63), some (.int l1), none, none]) (st' := [.int 0, .int l1, .ref 66]) (h' := h2) rfl ?_
  refine mX_cki (k' := 14) (ls' := [some (.ref 63), some (.int l1), none, none]) (st' := []) (h' := (sI h2 66 (ix l1) 0)) (ckA4 (k_66 L2) (n_66 L2) (by decide)) rfl fun c3 => ?_
  refine lt_geq2 (X := fun h4 : MH => mX (mE mtab d) KX1_judge 14 [some (.ref 63), some (.int l1), none, none] [] h4) (a := (sI h2 66 (ix l1) 0)) (a' := (sI h2 66 (ix l1) 0)) rfl fun h4 eh4 => ?_
  have L4 : lay h4 := eh4 ▸ layI L2 (by decide)
  refine mX_to 2 (k' := 16) (ls' := [some (.ref 63), some (.int l1), some (.int 0), none]) (st' := []) (h' := h4) rfl ?_
  rfl
theorem S_X1_judge_16 {h : MH} (L : lay h) (d : Nat) (l1 : Int32) (l2 : Int32) (o3 : Option Value) : G_X1_judge_16 d l1 l2 o3 h = (if l2 < 4 then cI (F_X1_canLeave d l1 l2 h) (fun x6 h5 => (if x6 = 0 then G_X1_judge_56 d l1 l2 (o3) h5 else lt_ (l1 - (1 <<< (l2 &&& 31))) fun v7 => ck (ib l1 16) (ck (ib v7 16) (ck (ib l1 16) (lt_ (sL h5 65 (ix l1) ((gL h5 65 (ix l1)) + (gL h5 65 (ix v7)))) fun h9 => ck (ib l1 16) (ck (ib v7 16) ((if (gI h9 66 (ix v7)) = 0 then G_X1_judge_54 d l1 l2 v7 1 (gI h9 66 (ix l1)) l1 h9 else G_X1_judge_54 d l1 l2 v7 0 (gI h9 66 (ix l1)) l1 h9)))))))) else some (.int 0, h)) := by
  refine mX_to 2 (k' := 18) (ls' := [some (.ref 63), some (.int l1), some (.int l2), o3]) (st' := [.int 4, .int l2]) (h' := h) rfl ?_
  refine mX_br (t := 19) (f := 58) (ls' := [some (.ref 63), some (.int l1), some (.int l2), o3]) (st' := []) (h' := h) rfl ?_ ?_
  · refine mX_to 3 (k' := 22) (ls' := [some (.ref 63), some (.int l1), some (.int l2), o3]) (st' := [.int l2, .int l1, .ref 63]) (h' := h) rfl ?_
    refine mX_ckct (m := mcl (mE mtab d 276 [.ref 63, .int l1, .int l2] h) 1 23 [some (.ref 63), some (.int l1), some (.int l2), o3] []) (k_63 L) rfl ?_
    refine mk_cIe (o := F_X1_canLeave d l1 l2 h) ?_
    intro x6 h5 eh5
    have L5 : lay h5 := lay_call d 276 [.ref 63, .int l1, .int l2] h _ h5 rfl eh5 L
    refine mX_br (t := 56) (f := 24) (ls' := [some (.ref 63), some (.int l1), some (.int l2), o3]) (st' := []) (h' := h5) rfl ?_ ?_
    · rfl
    · refine mX_to 5 (k' := 29) (ls' := [some (.ref 63), some (.int l1), some (.int l2), o3]) (st' := [.int (l1 - (1 <<< (l2 &&& 31)))]) (h' := h5) rfl ?_
      refine lt_gen (X := fun v7 : Int32 => mX (mE mtab d) KX1_judge 29 [some (.ref 63), some (.int l1), some (.int l2), o3] [.int v7] h5) fun v7 => ?_
      refine mX_to 2 (k' := 31) (ls' := [some (.ref 63), some (.int l1), some (.int l2), some (.int v7)]) (st' := [.ref 63]) (h' := h5) rfl ?_
      refine mX_ckv (v := .ref (gR h5 63 1)) (v' := .ref 65) (k' := 32) (ls' := [some (.ref 63), some (.int l1), some (.int l2), some (.int v7)]) (st' := []) (h' := h5) (k_63 L5) (congrArg Value.ref (r_63_1 L5)) rfl ?_
      refine mX_to 2 (k' := 34) (ls' := [some (.ref 63), some (.int l1), some (.int l2), some (.int v7)]) (st' := [.int l1, .ref 65, .int l1, .ref 65]) (h' := h5) rfl ?_
      refine mX_ckw (v := .long (gL h5 65 (ix l1))) (v' := .long (gL h5 65 (ix l1))) (k' := 35) (ls' := [some (.ref 63), some (.int l1), some (.int l2), some (.int v7)]) (st' := [.int l1, .ref 65]) (h' := h5) (ckA0 (k_65 L5) (n_65 L5)) rfl rfl fun c13 => ?_
      refine mX_to 1 (k' := 36) (ls' := [some (.ref 63), some (.int l1), some (.int l2), some (.int v7)]) (st' := [.ref 63, .long (gL h5 65 (ix l1)), .int l1, .ref 65]) (h' := h5) rfl ?_
      refine mX_ckv (v := .ref (gR h5 63 1)) (v' := .ref 65) (k' := 37) (ls' := [some (.ref 63), some (.int l1), some (.int l2), some (.int v7)]) (st' := [.long (gL h5 65 (ix l1)), .int l1, .ref 65]) (h' := h5) (k_63 L5) (congrArg Value.ref (r_63_1 L5)) rfl ?_
      refine mX_to 1 (k' := 38) (ls' := [some (.ref 63), some (.int l1), some (.int l2), some (.int v7)]) (st' := [.int v7, .ref 65, .long (gL h5 65 (ix l1)), .int l1, .ref 65]) (h' := h5) rfl ?_
      refine mX_ckw (v := .long (gL h5 65 (ix v7))) (v' := .long (gL h5 65 (ix v7))) (k' := 39) (ls' := [some (.ref 63), some (.int l1), some (.int l2), some (.int v7)]) (st' := [.long (gL h5 65 (ix l1)), .int l1, .ref 65]) (h' := h5) (ckA0 (k_65 L5) (n_65 L5)) rfl rfl fun c12 => ?_
      refine mX_to 1 (k' := 40) (ls' := [some (.ref 63), some (.int l1), some (.int l2), some (.int v7)]) (st' := [.long ((gL h5 65 (ix l1)) + (gL h5 65 (ix v7))), .int l1, .ref 65]) (h' := h5) rfl ?_
      refine mX_cki (k' := 41) (ls' := [some (.ref 63), some (.int l1), some (.int l2), some (.int v7)]) (st' := []) (h' := (sL h5 65 (ix l1) ((gL h5 65 (ix l1)) + (gL h5 65 (ix v7))))) (ckA0 (k_65 L5) (n_65 L5)) rfl fun c8 => ?_
      refine lt_geq2 (X := fun h9 : MH => mX (mE mtab d) KX1_judge 41 [some (.ref 63), some (.int l1), some (.int l2), some (.int v7)] [] h9) (a := (sL h5 65 (ix l1) ((gL h5 65 (ix l1)) + (gL h5 65 (ix v7))))) (a' := (sL h5 65 (ix l1) ((gL h5 65 (ix l1)) + (gL h5 65 (ix v7))))) rfl fun h9 eh9 => ?_
      have L9 : lay h9 := eh9 ▸ layL L5
      refine mX_to 1 (k' := 42) (ls' := [some (.ref 63), some (.int l1), some (.int l2), some (.int v7)]) (st' := [.ref 63]) (h' := h9) rfl ?_
      refine mX_ckv (v := .ref (gR h9 63 2)) (v' := .ref 66) (k' := 43) (ls' := [some (.ref 63), some (.int l1), some (.int l2), some (.int v7)]) (st' := []) (h' := h9) (k_63 L9) (congrArg Value.ref (r_63_2 L9)) rfl ?_
      refine mX_to 2 (k' := 45) (ls' := [some (.ref 63), some (.int l1), some (.int l2), some (.int v7)]) (st' := [.int l1, .ref 66, .int l1, .ref 66]) (h' := h9) rfl ?_
      refine mX_ckw (v := .int (gI h9 66 (ix l1))) (v' := .int (gI h9 66 (ix l1))) (k' := 46) (ls' := [some (.ref 63), some (.int l1), some (.int l2), some (.int v7)]) (st' := [.int l1, .ref 66]) (h' := h9) (ckA1 (k_66 L9) (n_66 L9)) rfl rfl fun c11 => ?_
      refine mX_to 1 (k' := 47) (ls' := [some (.ref 63), some (.int l1), some (.int l2), some (.int v7)]) (st' := [.ref 63, .int (gI h9 66 (ix l1)), .int l1, .ref 66]) (h' := h9) rfl ?_
      refine mX_ckv (v := .ref (gR h9 63 2)) (v' := .ref 66) (k' := 48) (ls' := [some (.ref 63), some (.int l1), some (.int l2), some (.int v7)]) (st' := [.int (gI h9 66 (ix l1)), .int l1, .ref 66]) (h' := h9) (k_63 L9) (congrArg Value.ref (r_63_2 L9)) rfl ?_
      refine mX_to 1 (k' := 49) (ls' := [some (.ref 63), some (.int l1), some (.int l2), some (.int v7)]) (st' := [.int v7, .ref 66, .int (gI h9 66 (ix l1)), .int l1, .ref 66]) (h' := h9) rfl ?_
      refine mX_ckw (v := .int (gI h9 66 (ix v7))) (v' := .int (gI h9 66 (ix v7))) (k' := 50) (ls' := [some (.ref 63), some (.int l1), some (.int l2), some (.int v7)]) (st' := [.int (gI h9 66 (ix l1)), .int l1, .ref 66]) (h' := h9) (ckA1 (k_66 L9) (n_66 L9)) rfl rfl fun c10 => ?_
      refine mX_br (t := 51) (f := 53) (ls' := [some (.ref 63), some (.int l1), some (.int l2), some (.int v7)]) (st' := [.int (gI h9 66 (ix l1)), .int l1, .ref 66]) (h' := h9) rfl ?_ ?_
      · refine mX_to 2 (k' := 54) (ls' := [some (.ref 63), some (.int l1), some (.int l2), some (.int v7)]) (st' := [.int 1, .int (gI h9 66 (ix l1)), .int l1, .ref 66]) (h' := h9) rfl ?_
        rfl
      · refine mX_to 1 (k' := 54) (ls' := [some (.ref 63), some (.int l1), some (.int l2), some (.int v7)]) (st' := [.int 0, .int (gI h9 66 (ix l1)), .int l1, .ref 66]) (h' := h9) rfl ?_
        rfl
  · exact mX_ret rfl
theorem S_X1_judge_56 {h : MH} (L : lay h) (d : Nat) (l1 : Int32) (l2 : Int32) (o3 : Option Value) : G_X1_judge_56 d l1 l2 o3 h = G_X1_judge_16 d l1 (l2 + 1) (o3) h := by
  refine mX_to 2 (k' := 16) (ls' := [some (.ref 63), some (.int l1), some (.int (l2 + 1)), o3]) (st' := []) (h' := h) rfl ?_
  rfl
theorem S_X1_judge_54 {h : MH} (L : lay h) (d : Nat) (l1 : Int32) (l2 : Int32) (l3 : Int32) (s0 : Int32) (s1 : Int32) (s2 : Int32) : G_X1_judge_54 d l1 l2 l3 s0 s1 s2 h = ck (ib s2 16 ∧ ((s1 ||| s0) = 0 ∨ (s1 ||| s0) = 1)) (lt_ (sI h 66 (ix s2) (s1 ||| s0)) fun h15 => G_X1_judge_56 d l1 l2 (some (.int l3)) h15) := by
  refine mX_to 1 (k' := 55) (ls' := [some (.ref 63), some (.int l1), some (.int l2), some (.int l3)]) (st' := [.int (s1 ||| s0), .int s2, .ref 66]) (h' := h) rfl ?_
  refine mX_cki (k' := 56) (ls' := [some (.ref 63), some (.int l1), some (.int l2), some (.int l3)]) (st' := []) (h' := (sI h 66 (ix s2) (s1 ||| s0))) (ckA3 (k_66 L) (n_66 L)) rfl fun c14 => ?_
  refine lt_geq2 (X := fun h15 : MH => mX (mE mtab d) KX1_judge 56 [some (.ref 63), some (.int l1), some (.int l2), some (.int l3)] [] h15) (a := (sI h 66 (ix s2) (s1 ||| s0))) (a' := (sI h 66 (ix s2) (s1 ||| s0))) rfl fun h15 eh15 => ?_
  have L15 : lay h15 := eh15 ▸ layI L (by decide)
  rfl
theorem S_X1_judge {h : MH} (L : lay h) (d : Nat) (a1 : Int32) : F_X1_judge (d + 1) a1 h = (if a1 = 0 then G_X1_judge_8 d a1 1 a1 h else G_X1_judge_8 d a1 0 a1 h) := by
  refine mE_eq (q := (yX1_judge, cX1_judge, 4, none, KX1_judge)) (C := KX1_judge) (ls := [some (.ref 63), some (.int a1), none, none]) rfl rfl rfl rfl ?_
  refine mX_to 1 (k' := 1) (ls' := [some (.ref 63), some (.int a1), none, none]) (st' := [.ref 63]) (h' := h) rfl ?_
  refine mX_ckv (v := .ref (gR h 63 1)) (v' := .ref 65) (k' := 2) (ls' := [some (.ref 63), some (.int a1), none, none]) (st' := []) (h' := h) (k_63 L) (congrArg Value.ref (r_63_1 L)) rfl ?_
  refine mX_to 2 (k' := 4) (ls' := [some (.ref 63), some (.int a1), none, none]) (st' := [.int a1, .int a1, .ref 65]) (h' := h) rfl ?_
  refine mX_br (t := 5) (f := 7) (ls' := [some (.ref 63), some (.int a1), none, none]) (st' := [.int a1, .ref 65]) (h' := h) rfl ?_ ?_
  · refine mX_to 2 (k' := 8) (ls' := [some (.ref 63), some (.int a1), none, none]) (st' := [.long 1, .int a1, .ref 65]) (h' := h) rfl ?_
    rfl
  · refine mX_to 1 (k' := 8) (ls' := [some (.ref 63), some (.int a1), none, none]) (st' := [.long 0, .int a1, .ref 65]) (h' := h) rfl ?_
    rfl
theorem S_X1_weigh_17 {h : MH} (L : lay h) (d : Nat) (l2 : Int32) (l3 : Int32) (o4 : Option Value) : G_X1_weigh_17 d l2 l3 o4 h = (if l3 ≤ (gI h 63 4) then ck (ib l3 16) (lt_ (sI h 64 (ix l3) l2) fun h10 => G_X1_weigh_28 d l2 l3 0 h10) else G_X1_weigh_60 d l2 0 (o4) h) := by
  refine mX_to 2 (k' := 19) (ls' := [some (.ref 63), some (.ref 10), some (.int l2), some (.int l3), o4]) (st' := [.ref 63, .int l3]) (h' := h) rfl ?_
  refine mX_ckv (v := .int (gI h 63 4)) (v' := .int (gI h 63 4)) (k' := 20) (ls' := [some (.ref 63), some (.ref 10), some (.int l2), some (.int l3), o4]) (st' := [.int l3]) (h' := h) (k_63 L) rfl rfl ?_
  refine mX_br (t := 21) (f := 58) (ls' := [some (.ref 63), some (.ref 10), some (.int l2), some (.int l3), o4]) (st' := []) (h' := h) rfl ?_ ?_
  · refine mX_to 1 (k' := 22) (ls' := [some (.ref 63), some (.ref 10), some (.int l2), some (.int l3), o4]) (st' := [.ref 63]) (h' := h) rfl ?_
    refine mX_ckv (v := .ref (gR h 63 0)) (v' := .ref 64) (k' := 23) (ls' := [some (.ref 63), some (.ref 10), some (.int l2), some (.int l3), o4]) (st' := []) (h' := h) (k_63 L) (congrArg Value.ref (r_63_0 L)) rfl ?_
    refine mX_to 2 (k' := 25) (ls' := [some (.ref 63), some (.ref 10), some (.int l2), some (.int l3), o4]) (st' := [.int l2, .int l3, .ref 64]) (h' := h) rfl ?_
    refine mX_cki (k' := 26) (ls' := [some (.ref 63), some (.ref 10), some (.int l2), some (.int l3), o4]) (st' := []) (h' := (sI h 64 (ix l3) l2)) (ckA0 (k_64 L) (n_64 L)) rfl fun c9 => ?_
    refine lt_geq2 (X := fun h10 : MH => mX (mE mtab d) KX1_weigh 26 [some (.ref 63), some (.ref 10), some (.int l2), some (.int l3), o4] [] h10) (a := (sI h 64 (ix l3) l2)) (a' := (sI h 64 (ix l3) l2)) rfl fun h10 eh10 => ?_
    have L10 : lay h10 := eh10 ▸ layI L (by decide)
    refine mX_to 2 (k' := 28) (ls' := [some (.ref 63), some (.ref 10), some (.int l2), some (.int l3), some (.int 0)]) (st' := []) (h' := h10) rfl ?_
    rfl
  · refine mX_to 2 (k' := 60) (ls' := [some (.ref 63), some (.ref 10), some (.int l2), some (.int 0), o4]) (st' := []) (h' := h) rfl ?_
    rfl
theorem S_X1_weigh_28 {h : MH} (L : lay h) (d : Nat) (l2 : Int32) (l3 : Int32) (l4 : Int32) : G_X1_weigh_28 d l2 l3 l4 h = (if l4 < (gI h 10 0) then cI (F_X10_holds d l3 l4 h) (fun x12 h11 => (if x12 = 0 then ck (ib l3 16) (ck (ib l4 4) (ck (ib l4 4) (ck (ib l3 16) (lt_ (sI h11 64 (ix l3) ((gI h11 64 (ix l3)) - ((gI h11 11 (ix l4)) * ((gI h11 12 (ix l4)) - 4)))) fun h14 => G_X1_weigh_54 d l2 l3 l4 h14)))) else G_X1_weigh_54 d l2 l3 l4 h11)) else G_X1_weigh_17 d l2 (l3 + 1) (some (.int l4)) h) := by
  refine mX_to 2 (k' := 30) (ls' := [some (.ref 63), some (.ref 10), some (.int l2), some (.int l3), some (.int l4)]) (st' := [.ref 10, .int l4]) (h' := h) rfl ?_
  refine mX_ckv (v := .int (gI h 10 0)) (v' := .int (gI h 10 0)) (k' := 31) (ls' := [some (.ref 63), some (.ref 10), some (.int l2), some (.int l3), some (.int l4)]) (st' := [.int l4]) (h' := h) (k_10 L) rfl rfl ?_
  refine mX_br (t := 32) (f := 56) (ls' := [some (.ref 63), some (.ref 10), some (.int l2), some (.int l3), some (.int l4)]) (st' := []) (h' := h) rfl ?_ ?_
  · refine mX_to 2 (k' := 34) (ls' := [some (.ref 63), some (.ref 10), some (.int l2), some (.int l3), some (.int l4)]) (st' := [.int l4, .int l3]) (h' := h) rfl ?_
    refine mX_cIe (o := F_X10_holds d l3 l4 h) (k' := 35) (ls' := [some (.ref 63), some (.ref 10), some (.int l2), some (.int l3), some (.int l4)]) (st' := []) rfl ?_
    intro x12 h11 eh11
    have L11 : lay h11 := lay_call d 257 [.int l3, .int l4] h _ h11 rfl eh11 L
    refine mX_br (t := 36) (f := 54) (ls' := [some (.ref 63), some (.ref 10), some (.int l2), some (.int l3), some (.int l4)]) (st' := []) (h' := h11) rfl ?_ ?_
    · refine mX_to 1 (k' := 37) (ls' := [some (.ref 63), some (.ref 10), some (.int l2), some (.int l3), some (.int l4)]) (st' := [.ref 63]) (h' := h11) rfl ?_
      refine mX_ckv (v := .ref (gR h11 63 0)) (v' := .ref 64) (k' := 38) (ls' := [some (.ref 63), some (.ref 10), some (.int l2), some (.int l3), some (.int l4)]) (st' := []) (h' := h11) (k_63 L11) (congrArg Value.ref (r_63_0 L11)) rfl ?_
      refine mX_to 2 (k' := 40) (ls' := [some (.ref 63), some (.ref 10), some (.int l2), some (.int l3), some (.int l4)]) (st' := [.int l3, .ref 64, .int l3, .ref 64]) (h' := h11) rfl ?_
      refine mX_ckw (v := .int (gI h11 64 (ix l3))) (v' := .int (gI h11 64 (ix l3))) (k' := 41) (ls' := [some (.ref 63), some (.ref 10), some (.int l2), some (.int l3), some (.int l4)]) (st' := [.int l3, .ref 64]) (h' := h11) (ckA1 (k_64 L11) (n_64 L11)) rfl rfl fun c17 => ?_
      refine mX_to 1 (k' := 42) (ls' := [some (.ref 63), some (.ref 10), some (.int l2), some (.int l3), some (.int l4)]) (st' := [.ref 10, .int (gI h11 64 (ix l3)), .int l3, .ref 64]) (h' := h11) rfl ?_
      refine mX_ckv (v := .ref (gR h11 10 1)) (v' := .ref 11) (k' := 43) (ls' := [some (.ref 63), some (.ref 10), some (.int l2), some (.int l3), some (.int l4)]) (st' := [.int (gI h11 64 (ix l3)), .int l3, .ref 64]) (h' := h11) (k_10 L11) (congrArg Value.ref (r_10_1 L11)) rfl ?_
      refine mX_to 1 (k' := 44) (ls' := [some (.ref 63), some (.ref 10), some (.int l2), some (.int l3), some (.int l4)]) (st' := [.int l4, .ref 11, .int (gI h11 64 (ix l3)), .int l3, .ref 64]) (h' := h11) rfl ?_
      refine mX_ckw (v := .int (gI h11 11 (ix l4))) (v' := .int (gI h11 11 (ix l4))) (k' := 45) (ls' := [some (.ref 63), some (.ref 10), some (.int l2), some (.int l3), some (.int l4)]) (st' := [.int (gI h11 64 (ix l3)), .int l3, .ref 64]) (h' := h11) (ckA1 (k_11 L11) (n_11 L11)) rfl rfl fun c16 => ?_
      refine mX_to 1 (k' := 46) (ls' := [some (.ref 63), some (.ref 10), some (.int l2), some (.int l3), some (.int l4)]) (st' := [.ref 10, .int (gI h11 11 (ix l4)), .int (gI h11 64 (ix l3)), .int l3, .ref 64]) (h' := h11) rfl ?_
      refine mX_ckv (v := .ref (gR h11 10 2)) (v' := .ref 12) (k' := 47) (ls' := [some (.ref 63), some (.ref 10), some (.int l2), some (.int l3), some (.int l4)]) (st' := [.int (gI h11 11 (ix l4)), .int (gI h11 64 (ix l3)), .int l3, .ref 64]) (h' := h11) (k_10 L11) (congrArg Value.ref (r_10_2 L11)) rfl ?_
      refine mX_to 1 (k' := 48) (ls' := [some (.ref 63), some (.ref 10), some (.int l2), some (.int l3), some (.int l4)]) (st' := [.int l4, .ref 12, .int (gI h11 11 (ix l4)), .int (gI h11 64 (ix l3)), .int l3, .ref 64]) (h' := h11) rfl ?_
      refine mX_ckw (v := .int (gI h11 12 (ix l4))) (v' := .int (gI h11 12 (ix l4))) (k' := 49) (ls' := [some (.ref 63), some (.ref 10), some (.int l2), some (.int l3), some (.int l4)]) (st' := [.int (gI h11 11 (ix l4)), .int (gI h11 64 (ix l3)), .int l3, .ref 64]) (h' := h11) (ckA1 (k_12 L11) (n_12 L11)) rfl rfl fun c15 => ?_
      refine mX_to 4 (k' := 53) (ls' := [some (.ref 63), some (.ref 10), some (.int l2), some (.int l3), some (.int l4)]) (st' := [.int ((gI h11 64 (ix l3)) - ((gI h11 11 (ix l4)) * ((gI h11 12 (ix l4)) - 4))), .int l3, .ref 64]) (h' := h11) rfl ?_
      refine mX_cki (k' := 54) (ls' := [some (.ref 63), some (.ref 10), some (.int l2), some (.int l3), some (.int l4)]) (st' := []) (h' := (sI h11 64 (ix l3) ((gI h11 64 (ix l3)) - ((gI h11 11 (ix l4)) * ((gI h11 12 (ix l4)) - 4))))) (ckA0 (k_64 L11) (n_64 L11)) rfl fun c13 => ?_
      refine lt_geq2 (X := fun h14 : MH => mX (mE mtab d) KX1_weigh 54 [some (.ref 63), some (.ref 10), some (.int l2), some (.int l3), some (.int l4)] [] h14) (a := (sI h11 64 (ix l3) ((gI h11 64 (ix l3)) - ((gI h11 11 (ix l4)) * ((gI h11 12 (ix l4)) - 4))))) (a' := (sI h11 64 (ix l3) ((gI h11 64 (ix l3)) - ((gI h11 11 (ix l4)) * ((gI h11 12 (ix l4)) - 4))))) rfl fun h14 eh14 => ?_
      have L14 : lay h14 := eh14 ▸ layI L11 (by decide)
      rfl
    · rfl
  · refine mX_to 2 (k' := 17) (ls' := [some (.ref 63), some (.ref 10), some (.int l2), some (.int (l3 + 1)), some (.int l4)]) (st' := []) (h' := h) rfl ?_
    rfl
theorem S_X1_weigh_60 {h : MH} (L : lay h) (d : Nat) (l2 : Int32) (l3 : Int32) (o4 : Option Value) : G_X1_weigh_60 d l2 l3 o4 h = (if l3 ≤ (gI h 63 4) then cV (F_X1_judge d l3 h) (fun h18 => G_X1_weigh_60 d l2 (l3 + 1) (o4) h18) else some (.int 0, h)) := by
  refine mX_to 2 (k' := 62) (ls' := [some (.ref 63), some (.ref 10), some (.int l2), some (.int l3), o4]) (st' := [.ref 63, .int l3]) (h' := h) rfl ?_
  refine mX_ckv (v := .int (gI h 63 4)) (v' := .int (gI h 63 4)) (k' := 63) (ls' := [some (.ref 63), some (.ref 10), some (.int l2), some (.int l3), o4]) (st' := [.int l3]) (h' := h) (k_63 L) rfl rfl ?_
  refine mX_br (t := 64) (f := 69) (ls' := [some (.ref 63), some (.ref 10), some (.int l2), some (.int l3), o4]) (st' := []) (h' := h) rfl ?_ ?_
  · refine mX_to 2 (k' := 66) (ls' := [some (.ref 63), some (.ref 10), some (.int l2), some (.int l3), o4]) (st' := [.int l3, .ref 63]) (h' := h) rfl ?_
    refine mX_ckct (m := mcl (mE mtab d 277 [.ref 63, .int l3] h) 0 67 [some (.ref 63), some (.ref 10), some (.int l2), some (.int l3), o4] []) (k_63 L) rfl ?_
    refine mk_cVe (o := F_X1_judge d l3 h) ?_
    intro wh18 h18 eh18
    have L18 : lay h18 := lay_call d 277 [.ref 63, .int l3] h _ h18 rfl eh18 L
    refine mX_to 2 (k' := 60) (ls' := [some (.ref 63), some (.ref 10), some (.int l2), some (.int (l3 + 1)), o4]) (st' := []) (h' := h18) rfl ?_
    rfl
  · exact mX_ret rfl
theorem S_X1_weigh_54 {h : MH} (L : lay h) (d : Nat) (l2 : Int32) (l3 : Int32) (l4 : Int32) : G_X1_weigh_54 d l2 l3 l4 h = G_X1_weigh_28 d l2 l3 (l4 + 1) h := by
  refine mX_to 2 (k' := 28) (ls' := [some (.ref 63), some (.ref 10), some (.int l2), some (.int l3), some (.int (l4 + 1))]) (st' := []) (h' := h) rfl ?_
  rfl
theorem S_X1_weigh {h : MH} (L : lay h) (d : Nat) : F_X1_weigh (d + 1) h = cI (F_X9_tipsNow d 10 h) (fun x2 h1 => lt_ (sI h1 63 3 x2) fun h4 => lt_ (sI h4 63 4 ((1 <<< ((gI h4 10 0) &&& 31)) - 1)) fun h6 => cI (F_X9_tipNow d 10 h6) (fun x8 h7 => G_X1_weigh_17 d x8 0 none h7)) := by
  refine mE_eq (q := (yX1_weigh, cX1_weigh, 5, none, KX1_weigh)) (C := KX1_weigh) (ls := [some (.ref 63), some (.ref 10), none, none, none]) rfl rfl rfl rfl ?_
  refine mX_to 2 (k' := 2) (ls' := [some (.ref 63), some (.ref 10), none, none, none]) (st' := [.ref 10, .ref 63]) (h' := h) rfl ?_
  refine mX_ckct (m := mcl (mE mtab d 145 [.ref 10] h) 1 3 [some (.ref 63), some (.ref 10), none, none, none] [.ref 63]) (k_10 L) rfl ?_
  refine mk_cIe (o := F_X9_tipsNow d 10 h) ?_
  intro x2 h1 eh1
  have L1 : lay h1 := lay_call d 145 [.ref 10] h _ h1 rfl eh1 L
  refine mX_ckt (k' := 4) (ls' := [some (.ref 63), some (.ref 10), none, none, none]) (st' := []) (h' := (sI h1 63 3 x2)) (k_63 L1) rfl ?_
  refine lt_geq2 (X := fun h4 : MH => mX (mE mtab d) KX1_weigh 4 [some (.ref 63), some (.ref 10), none, none, none] [] h4) (a := (sI h1 63 3 x2)) (a' := (sI h1 63 3 x2)) rfl fun h4 eh4 => ?_
  have L4 : lay h4 := eh4 ▸ layI L1 (by decide)
  refine mX_to 3 (k' := 7) (ls' := [some (.ref 63), some (.ref 10), none, none, none]) (st' := [.ref 10, .int 1, .ref 63]) (h' := h4) rfl ?_
  refine mX_ckv (v := .int (gI h4 10 0)) (v' := .int (gI h4 10 0)) (k' := 8) (ls' := [some (.ref 63), some (.ref 10), none, none, none]) (st' := [.int 1, .ref 63]) (h' := h4) (k_10 L4) rfl rfl ?_
  refine mX_to 3 (k' := 11) (ls' := [some (.ref 63), some (.ref 10), none, none, none]) (st' := [.int ((1 <<< ((gI h4 10 0) &&& 31)) - 1), .ref 63]) (h' := h4) rfl ?_
  refine mX_ckt (k' := 12) (ls' := [some (.ref 63), some (.ref 10), none, none, none]) (st' := []) (h' := (sI h4 63 4 ((1 <<< ((gI h4 10 0) &&& 31)) - 1))) (k_63 L4) rfl ?_
  refine lt_geq2 (X := fun h6 : MH => mX (mE mtab d) KX1_weigh 12 [some (.ref 63), some (.ref 10), none, none, none] [] h6) (a := (sI h4 63 4 ((1 <<< ((gI h4 10 0) &&& 31)) - 1))) (a' := (sI h4 63 4 ((1 <<< ((gI h4 10 0) &&& 31)) - 1))) rfl fun h6 eh6 => ?_
  have L6 : lay h6 := eh6 ▸ layI L4 (by decide)
  refine mX_to 1 (k' := 13) (ls' := [some (.ref 63), some (.ref 10), none, none, none]) (st' := [.ref 10]) (h' := h6) rfl ?_
  refine mX_ckct (m := mcl (mE mtab d 139 [.ref 10] h6) 1 14 [some (.ref 63), some (.ref 10), none, none, none] []) (k_10 L6) rfl ?_
  refine mk_cIe (o := F_X9_tipNow d 10 h6) ?_
  intro x8 h7 eh7
  have L7 : lay h7 := lay_call d 139 [.ref 10] h6 _ h7 rfl eh7 L6
  refine mX_to 3 (k' := 17) (ls' := [some (.ref 63), some (.ref 10), some (.int x8), some (.int 0), none]) (st' := []) (h' := h7) rfl ?_
  rfl
