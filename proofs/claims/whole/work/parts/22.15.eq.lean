--deps:19.lay 21.facts 22.00.names
/-! EQUATIONS over the fixed cells (written by wip/gen/sgen.py) -/
theorem S_X11_foretold_13 {h : MH} (L : lay h) (d : Nat) (l1 : Int32) (l2 : Int32) (l3 : Int32) : G_X11_foretold_13 d l1 l2 l3 h = (if l3 < 22 then ck (ib l3 1498) (ck (ib l3 22) (lt_ (sI h 76 (ix l3) (gI h 68 (ix l3))) fun h6 => G_X11_foretold_13 d l1 l2 (l3 + 1) h6)) else lt_ (sI h 67 23 0) fun h9 => G_X11_foretold_31 d l1 l2 0 h9) := by
  refine mX_to 2 (k' := 15) (ls' := [some (.ref 67), some (.int l1), some (.int l2), some (.int l3), none]) (st' := [.int 22, .int l3]) (h' := h) rfl ?_
  refine mX_br (t := 16) (f := 26) (ls' := [some (.ref 67), some (.int l1), some (.int l2), some (.int l3), none]) (st' := []) (h' := h) rfl ?_ ?_
  · refine mX_to 1 (k' := 17) (ls' := [some (.ref 67), some (.int l1), some (.int l2), some (.int l3), none]) (st' := [.ref 67]) (h' := h) rfl ?_
    refine mX_ckv (v := .ref (gR h 67 25)) (v' := .ref 76) (k' := 18) (ls' := [some (.ref 67), some (.int l1), some (.int l2), some (.int l3), none]) (st' := []) (h' := h) (k_67 L) (congrArg Value.ref (r_67_25 L)) rfl ?_
    refine mX_to 2 (k' := 20) (ls' := [some (.ref 67), some (.int l1), some (.int l2), some (.int l3), none]) (st' := [.ref 67, .int l3, .ref 76]) (h' := h) rfl ?_
    refine mX_ckv (v := .ref (gR h 67 0)) (v' := .ref 68) (k' := 21) (ls' := [some (.ref 67), some (.int l1), some (.int l2), some (.int l3), none]) (st' := [.int l3, .ref 76]) (h' := h) (k_67 L) (congrArg Value.ref (r_67_0 L)) rfl ?_
    refine mX_to 1 (k' := 22) (ls' := [some (.ref 67), some (.int l1), some (.int l2), some (.int l3), none]) (st' := [.int l3, .ref 68, .int l3, .ref 76]) (h' := h) rfl ?_
    refine mX_ckw (v := .int (gI h 68 (ix l3))) (v' := .int (gI h 68 (ix l3))) (k' := 23) (ls' := [some (.ref 67), some (.int l1), some (.int l2), some (.int l3), none]) (st' := [.int l3, .ref 76]) (h' := h) (ckA1 (k_68 L) (n_68 L)) rfl rfl fun c7 => ?_
    refine mX_cki (k' := 24) (ls' := [some (.ref 67), some (.int l1), some (.int l2), some (.int l3), none]) (st' := []) (h' := (sI h 76 (ix l3) (gI h 68 (ix l3)))) (ckA0 (k_76 L) (n_76 L)) rfl fun c5 => ?_
    refine lt_geq2 (X := fun h6 : MH => mX (mE mtab d) KX11_foretold 24 [some (.ref 67), some (.int l1), some (.int l2), some (.int l3), none] [] h6) (a := (sI h 76 (ix l3) (gI h 68 (ix l3)))) (a' := (sI h 76 (ix l3) (gI h 68 (ix l3)))) rfl fun h6 eh6 => ?_
    have L6 : lay h6 := eh6 ▸ layI L (by decide)
    refine mX_to 2 (k' := 13) (ls' := [some (.ref 67), some (.int l1), some (.int l2), some (.int (l3 + 1)), none]) (st' := []) (h' := h6) rfl ?_
    rfl
  · refine mX_to 2 (k' := 28) (ls' := [some (.ref 67), some (.int l1), some (.int l2), some (.int l3), none]) (st' := [.int 0, .ref 67]) (h' := h) rfl ?_
    refine mX_ckt (k' := 29) (ls' := [some (.ref 67), some (.int l1), some (.int l2), some (.int l3), none]) (st' := []) (h' := (sI h 67 23 0)) ⟨(k_67 L), by decide⟩ rfl ?_
    refine lt_geq2 (X := fun h9 : MH => mX (mE mtab d) KX11_foretold 29 [some (.ref 67), some (.int l1), some (.int l2), some (.int l3), none] [] h9) (a := (sI h 67 23 0)) (a' := (sI h 67 23 0)) rfl fun h9 eh9 => ?_
    have L9 : lay h9 := eh9 ▸ layI L (by decide)
    refine mX_to 2 (k' := 31) (ls' := [some (.ref 67), some (.int l1), some (.int l2), some (.int 0), none]) (st' := []) (h' := h9) rfl ?_
    rfl
theorem S_X11_foretold_31 {h : MH} (L : lay h) (d : Nat) (l1 : Int32) (l2 : Int32) (l3 : Int32) : G_X11_foretold_31 d l1 l2 l3 h = (if l3 < l1 then (if (gI h 68 6) < 9999 then cV (F_X11_pass d h) (fun h10 => G_X11_foretold_42 d l1 l2 l3 h10) else G_X11_foretold_42 d l1 l2 l3 h) else ck (ib (9 + l2) 1498) (lt_ (gI h 68 (ix (9 + l2))) fun v11 => G_X11_foretold_53 d l1 l2 v11 6 h)) := by
  refine mX_to 2 (k' := 33) (ls' := [some (.ref 67), some (.int l1), some (.int l2), some (.int l3), none]) (st' := [.int l1, .int l3]) (h' := h) rfl ?_
  refine mX_br (t := 34) (f := 44) (ls' := [some (.ref 67), some (.int l1), some (.int l2), some (.int l3), none]) (st' := []) (h' := h) rfl ?_ ?_
  · refine mX_to 1 (k' := 35) (ls' := [some (.ref 67), some (.int l1), some (.int l2), some (.int l3), none]) (st' := [.ref 67]) (h' := h) rfl ?_
    refine mX_ckv (v := .ref (gR h 67 0)) (v' := .ref 68) (k' := 36) (ls' := [some (.ref 67), some (.int l1), some (.int l2), some (.int l3), none]) (st' := []) (h' := h) (k_67 L) (congrArg Value.ref (r_67_0 L)) rfl ?_
    refine mX_to 1 (k' := 37) (ls' := [some (.ref 67), some (.int l1), some (.int l2), some (.int l3), none]) (st' := [.int 6, .ref 68]) (h' := h) rfl ?_
    refine mX_ckv (v := .int (gI h 68 (ix (6 : Int32)))) (v' := .int (gI h 68 6)) (k' := 38) (ls' := [some (.ref 67), some (.int l1), some (.int l2), some (.int l3), none]) (st' := []) (h' := h) ((ckA1 (k_68 L) (n_68 L)).mpr (ib_lit (n := 6) rfl (by decide) (by decide))) (congrArg (fun j => Value.int (gI h 68 j)) (ix_lit (n := 6) rfl (by decide))) rfl ?_
    refine mX_to 1 (k' := 39) (ls' := [some (.ref 67), some (.int l1), some (.int l2), some (.int l3), none]) (st' := [.int 9999, .int (gI h 68 6)]) (h' := h) rfl ?_
    refine mX_br (t := 40) (f := 42) (ls' := [some (.ref 67), some (.int l1), some (.int l2), some (.int l3), none]) (st' := []) (h' := h) rfl ?_ ?_
    · refine mX_to 1 (k' := 41) (ls' := [some (.ref 67), some (.int l1), some (.int l2), some (.int l3), none]) (st' := [.ref 67]) (h' := h) rfl ?_
      refine mX_ckct (m := mcl (mE mtab d 199 [.ref 67] h) 0 42 [some (.ref 67), some (.int l1), some (.int l2), some (.int l3), none] []) (k_67 L) rfl ?_
      refine mk_cVe (o := F_X11_pass d h) ?_
      intro wh10 h10 eh10
      have L10 : lay h10 := lay_call d 199 [.ref 67] h _ h10 rfl eh10 L
      rfl
    · rfl
  · refine mX_to 1 (k' := 45) (ls' := [some (.ref 67), some (.int l1), some (.int l2), some (.int l3), none]) (st' := [.ref 67]) (h' := h) rfl ?_
    refine mX_ckv (v := .ref (gR h 67 0)) (v' := .ref 68) (k' := 46) (ls' := [some (.ref 67), some (.int l1), some (.int l2), some (.int l3), none]) (st' := []) (h' := h) (k_67 L) (congrArg Value.ref (r_67_0 L)) rfl ?_
    refine mX_to 3 (k' := 49) (ls' := [some (.ref 67), some (.int l1), some (.int l2), some (.int l3), none]) (st' := [.int (9 + l2), .ref 68]) (h' := h) rfl ?_
    refine mX_ckw (v := .int (gI h 68 (ix (9 + l2)))) (v' := .int (gI h 68 (ix (9 + l2)))) (k' := 50) (ls' := [some (.ref 67), some (.int l1), some (.int l2), some (.int l3), none]) (st' := []) (h' := h) (ckA1 (k_68 L) (n_68 L)) rfl rfl fun c12 => ?_
    refine lt_gen (X := fun v11 : Int32 => mX (mE mtab d) KX11_foretold 50 [some (.ref 67), some (.int l1), some (.int l2), some (.int l3), none] [.int v11] h) fun v11 => ?_
    refine mX_to 3 (k' := 53) (ls' := [some (.ref 67), some (.int l1), some (.int l2), some (.int v11), some (.int 6)]) (st' := []) (h' := h) rfl ?_
    rfl
theorem S_X11_foretold_42 {h : MH} (L : lay h) (d : Nat) (l1 : Int32) (l2 : Int32) (l3 : Int32) : G_X11_foretold_42 d l1 l2 l3 h = G_X11_foretold_31 d l1 l2 (l3 + 1) h := by
  refine mX_to 2 (k' := 31) (ls' := [some (.ref 67), some (.int l1), some (.int l2), some (.int (l3 + 1)), none]) (st' := []) (h' := h) rfl ?_
  rfl
theorem S_X11_foretold_53 {h : MH} (L : lay h) (d : Nat) (l1 : Int32) (l2 : Int32) (l3 : Int32) (l4 : Int32) : G_X11_foretold_53 d l1 l2 l3 l4 h = (if l4 < 22 then ck (ib l4 22) (ck (ib l4 1498) (lt_ (sI h 68 (ix l4) (gI h 76 (ix l4))) fun h14 => G_X11_foretold_53 d l1 l2 l3 (l4 + 1) h14)) else lt_ (sI h 67 23 1) fun h17 => some (.int l3, h17)) := by
  refine mX_to 2 (k' := 55) (ls' := [some (.ref 67), some (.int l1), some (.int l2), some (.int l3), some (.int l4)]) (st' := [.int 22, .int l4]) (h' := h) rfl ?_
  refine mX_br (t := 56) (f := 66) (ls' := [some (.ref 67), some (.int l1), some (.int l2), some (.int l3), some (.int l4)]) (st' := []) (h' := h) rfl ?_ ?_
  · refine mX_to 1 (k' := 57) (ls' := [some (.ref 67), some (.int l1), some (.int l2), some (.int l3), some (.int l4)]) (st' := [.ref 67]) (h' := h) rfl ?_
    refine mX_ckv (v := .ref (gR h 67 0)) (v' := .ref 68) (k' := 58) (ls' := [some (.ref 67), some (.int l1), some (.int l2), some (.int l3), some (.int l4)]) (st' := []) (h' := h) (k_67 L) (congrArg Value.ref (r_67_0 L)) rfl ?_
    refine mX_to 2 (k' := 60) (ls' := [some (.ref 67), some (.int l1), some (.int l2), some (.int l3), some (.int l4)]) (st' := [.ref 67, .int l4, .ref 68]) (h' := h) rfl ?_
    refine mX_ckv (v := .ref (gR h 67 25)) (v' := .ref 76) (k' := 61) (ls' := [some (.ref 67), some (.int l1), some (.int l2), some (.int l3), some (.int l4)]) (st' := [.int l4, .ref 68]) (h' := h) (k_67 L) (congrArg Value.ref (r_67_25 L)) rfl ?_
    refine mX_to 1 (k' := 62) (ls' := [some (.ref 67), some (.int l1), some (.int l2), some (.int l3), some (.int l4)]) (st' := [.int l4, .ref 76, .int l4, .ref 68]) (h' := h) rfl ?_
    refine mX_ckw (v := .int (gI h 76 (ix l4))) (v' := .int (gI h 76 (ix l4))) (k' := 63) (ls' := [some (.ref 67), some (.int l1), some (.int l2), some (.int l3), some (.int l4)]) (st' := [.int l4, .ref 68]) (h' := h) (ckA1 (k_76 L) (n_76 L)) rfl rfl fun c15 => ?_
    refine mX_cki (k' := 64) (ls' := [some (.ref 67), some (.int l1), some (.int l2), some (.int l3), some (.int l4)]) (st' := []) (h' := (sI h 68 (ix l4) (gI h 76 (ix l4)))) (ckA0 (k_68 L) (n_68 L)) rfl fun c13 => ?_
    refine lt_geq2 (X := fun h14 : MH => mX (mE mtab d) KX11_foretold 64 [some (.ref 67), some (.int l1), some (.int l2), some (.int l3), some (.int l4)] [] h14) (a := (sI h 68 (ix l4) (gI h 76 (ix l4)))) (a' := (sI h 68 (ix l4) (gI h 76 (ix l4)))) rfl fun h14 eh14 => ?_
    have L14 : lay h14 := eh14 ▸ layI L (by decide)
    refine mX_to 2 (k' := 53) (ls' := [some (.ref 67), some (.int l1), some (.int l2), some (.int l3), some (.int (l4 + 1))]) (st' := []) (h' := h14) rfl ?_
    rfl
  · refine mX_to 2 (k' := 68) (ls' := [some (.ref 67), some (.int l1), some (.int l2), some (.int l3), some (.int l4)]) (st' := [.int 1, .ref 67]) (h' := h) rfl ?_
    refine mX_ckt (k' := 69) (ls' := [some (.ref 67), some (.int l1), some (.int l2), some (.int l3), some (.int l4)]) (st' := []) (h' := (sI h 67 23 1)) ⟨(k_67 L), by decide⟩ rfl ?_
    refine lt_geq2 (X := fun h17 : MH => mX (mE mtab d) KX11_foretold 69 [some (.ref 67), some (.int l1), some (.int l2), some (.int l3), some (.int l4)] [] h17) (a := (sI h 67 23 1)) (a' := (sI h 67 23 1)) rfl fun h17 eh17 => ?_
    have L17 : lay h17 := eh17 ▸ layI L (by decide)
    refine mX_to 1 (k' := 70) (ls' := [some (.ref 67), some (.int l1), some (.int l2), some (.int l3), some (.int l4)]) (st' := [.int l3]) (h' := h17) rfl ?_
    exact mX_reti rfl
theorem S_X11_foretold {h : MH} (L : lay h) (d : Nat) (a1 : Int32) (a2 : Int32) : F_X11_foretold (d + 1) a1 a2 h = cI (F_X11_isIn d a1 1 60 h) (fun x2 h1 => (if x2 = 0 then some (.int (-1), h1) else cI (F_X11_isPerson d a2 h1) (fun x4 h3 => (if x4 = 0 then some (.int (-1), h3) else G_X11_foretold_13 d a1 a2 6 h3)))) := by
  refine mE_eq (q := (yX11_foretold, cX11_foretold, 5, (some .int), KX11_foretold)) (C := KX11_foretold) (ls := [some (.ref 67), some (.int a1), some (.int a2), none, none]) rfl rfl rfl rfl ?_
  refine mX_to 3 (k' := 3) (ls' := [some (.ref 67), some (.int a1), some (.int a2), none, none]) (st' := [.int 60, .int 1, .int a1]) (h' := h) rfl ?_
  refine mX_cIe (o := F_X11_isIn d a1 1 60 h) (k' := 4) (ls' := [some (.ref 67), some (.int a1), some (.int a2), none, none]) (st' := []) rfl ?_
  intro x2 h1 eh1
  have L1 : lay h1 := lay_call d 14 [.int a1, .int 1, .int 60] h _ h1 rfl eh1 L
  refine mX_br (t := 9) (f := 5) (ls' := [some (.ref 67), some (.int a1), some (.int a2), none, none]) (st' := []) (h' := h1) rfl ?_ ?_
  · refine mX_to 1 (k' := 10) (ls' := [some (.ref 67), some (.int a1), some (.int a2), none, none]) (st' := [.int (-1)]) (h' := h1) rfl ?_
    exact mX_reti rfl
  · refine mX_to 2 (k' := 7) (ls' := [some (.ref 67), some (.int a1), some (.int a2), none, none]) (st' := [.int a2, .ref 67]) (h' := h1) rfl ?_
    refine mX_ckct (m := mcl (mE mtab d 20 [.ref 67, .int a2] h1) 1 8 [some (.ref 67), some (.int a1), some (.int a2), none, none] []) (k_67 L1) rfl ?_
    refine mk_cIe (o := F_X11_isPerson d a2 h1) ?_
    intro x4 h3 eh3
    have L3 : lay h3 := lay_call d 20 [.ref 67, .int a2] h1 _ h3 rfl eh3 L1
    refine mX_br (t := 9) (f := 11) (ls' := [some (.ref 67), some (.int a1), some (.int a2), none, none]) (st' := []) (h' := h3) rfl ?_ ?_
    · refine mX_to 1 (k' := 10) (ls' := [some (.ref 67), some (.int a1), some (.int a2), none, none]) (st' := [.int (-1)]) (h' := h3) rfl ?_
      exact mX_reti rfl
    · refine mX_to 2 (k' := 13) (ls' := [some (.ref 67), some (.int a1), some (.int a2), some (.int 6), none]) (st' := []) (h' := h3) rfl ?_
      rfl
theorem S_X10_tip {h : MH} (L : lay h) (d : Nat) (a1 : Int32) (a2 : Int32) : F_X10_tip (d + 1) a1 a2 h = cI (F_X9_has d 10 a1 h) (fun x2 h1 => (if x2 = 0 then some (.int (-1000), h1) else cI (F_X10_within d a2 0 8 h1) (fun x4 h3 => (if x4 = 0 then some (.int (-1000), h3) else cV (F_X9_copyFrom d 43 10 h3) (fun h5 => ck (ib a1 4) (lt_ (sI h5 45 (ix a1) a2) fun h7 => cI (F_X9_tipNow d 43 h7) (fun x9 h8 => some (.int x9, h8)))))))) := by
  refine mE_eq (q := (yX10_tip, cX10_tip, 3, (some .int), KX10_tip)) (C := KX10_tip) (ls := [some (.ref 8), some (.int a1), some (.int a2)]) rfl rfl rfl rfl ?_
  refine mX_to 1 (k' := 1) (ls' := [some (.ref 8), some (.int a1), some (.int a2)]) (st' := [.ref 8]) (h' := h) rfl ?_
  refine mX_ckv (v := .ref (gR h 8 0)) (v' := .ref 9) (k' := 2) (ls' := [some (.ref 8), some (.int a1), some (.int a2)]) (st' := []) (h' := h) (k_8 L) (congrArg Value.ref (r_8_0 L)) rfl ?_
  refine mX_ckv (v := .ref (gR h 9 0)) (v' := .ref 10) (k' := 3) (ls' := [some (.ref 8), some (.int a1), some (.int a2)]) (st' := []) (h' := h) (k_9 L) (congrArg Value.ref (r_9_0 L)) rfl ?_
  refine mX_to 1 (k' := 4) (ls' := [some (.ref 8), some (.int a1), some (.int a2)]) (st' := [.int a1, .ref 10]) (h' := h) rfl ?_
  refine mX_ckct (m := mcl (mE mtab d 17 [.ref 10, .int a1] h) 1 5 [some (.ref 8), some (.int a1), some (.int a2)] []) (k_10 L) rfl ?_
  refine mk_cIe (o := F_X9_has d 10 a1 h) ?_
  intro x2 h1 eh1
  have L1 : lay h1 := lay_call d 17 [.ref 10, .int a1] h _ h1 rfl eh1 L
  refine mX_br (t := 11) (f := 6) (ls' := [some (.ref 8), some (.int a1), some (.int a2)]) (st' := []) (h' := h1) rfl ?_ ?_
  · refine mX_to 1 (k' := 12) (ls' := [some (.ref 8), some (.int a1), some (.int a2)]) (st' := [.int (-1000)]) (h' := h1) rfl ?_
    exact mX_reti rfl
  · refine mX_to 3 (k' := 9) (ls' := [some (.ref 8), some (.int a1), some (.int a2)]) (st' := [.int 8, .int 0, .int a2]) (h' := h1) rfl ?_
    refine mX_cIe (o := F_X10_within d a2 0 8 h1) (k' := 10) (ls' := [some (.ref 8), some (.int a1), some (.int a2)]) (st' := []) rfl ?_
    intro x4 h3 eh3
    have L3 : lay h3 := lay_call d 11 [.int a2, .int 0, .int 8] h1 _ h3 rfl eh3 L1
    refine mX_br (t := 11) (f := 13) (ls' := [some (.ref 8), some (.int a1), some (.int a2)]) (st' := []) (h' := h3) rfl ?_ ?_
    · refine mX_to 1 (k' := 12) (ls' := [some (.ref 8), some (.int a1), some (.int a2)]) (st' := [.int (-1000)]) (h' := h3) rfl ?_
      exact mX_reti rfl
    · refine mX_to 1 (k' := 14) (ls' := [some (.ref 8), some (.int a1), some (.int a2)]) (st' := [.ref 8]) (h' := h3) rfl ?_
      refine mX_ckv (v := .ref (gR h3 8 2)) (v' := .ref 43) (k' := 15) (ls' := [some (.ref 8), some (.int a1), some (.int a2)]) (st' := []) (h' := h3) (k_8 L3) (congrArg Value.ref (r_8_2 L3)) rfl ?_
      refine mX_to 1 (k' := 16) (ls' := [some (.ref 8), some (.int a1), some (.int a2)]) (st' := [.ref 8, .ref 43]) (h' := h3) rfl ?_
      refine mX_ckv (v := .ref (gR h3 8 0)) (v' := .ref 9) (k' := 17) (ls' := [some (.ref 8), some (.int a1), some (.int a2)]) (st' := [.ref 43]) (h' := h3) (k_8 L3) (congrArg Value.ref (r_8_0 L3)) rfl ?_
      refine mX_ckv (v := .ref (gR h3 9 0)) (v' := .ref 10) (k' := 18) (ls' := [some (.ref 8), some (.int a1), some (.int a2)]) (st' := [.ref 43]) (h' := h3) (k_9 L3) (congrArg Value.ref (r_9_0 L3)) rfl ?_
      refine mX_ckct (m := mcl (mE mtab d 225 [.ref 43, .ref 10] h3) 0 19 [some (.ref 8), some (.int a1), some (.int a2)] []) (k_43 L3) rfl ?_
      refine mk_cVe (o := F_X9_copyFrom d 43 10 h3) ?_
      intro wh5 h5 eh5
      have L5 : lay h5 := lay_call d 225 [.ref 43, .ref 10] h3 _ h5 rfl eh5 L3
      refine mX_to 1 (k' := 20) (ls' := [some (.ref 8), some (.int a1), some (.int a2)]) (st' := [.ref 8]) (h' := h5) rfl ?_
      refine mX_ckv (v := .ref (gR h5 8 2)) (v' := .ref 43) (k' := 21) (ls' := [some (.ref 8), some (.int a1), some (.int a2)]) (st' := []) (h' := h5) (k_8 L5) (congrArg Value.ref (r_8_2 L5)) rfl ?_
      refine mX_ckv (v := .ref (gR h5 43 2)) (v' := .ref 45) (k' := 22) (ls' := [some (.ref 8), some (.int a1), some (.int a2)]) (st' := []) (h' := h5) (k_43 L5) (congrArg Value.ref (r_43_2 L5)) rfl ?_
      refine mX_to 2 (k' := 24) (ls' := [some (.ref 8), some (.int a1), some (.int a2)]) (st' := [.int a2, .int a1, .ref 45]) (h' := h5) rfl ?_
      refine mX_cki (k' := 25) (ls' := [some (.ref 8), some (.int a1), some (.int a2)]) (st' := []) (h' := (sI h5 45 (ix a1) a2)) (ckA0 (k_45 L5) (n_45 L5)) rfl fun c6 => ?_
      refine lt_geq2 (X := fun h7 : MH => mX (mE mtab d) KX10_tip 25 [some (.ref 8), some (.int a1), some (.int a2)] [] h7) (a := (sI h5 45 (ix a1) a2)) (a' := (sI h5 45 (ix a1) a2)) rfl fun h7 eh7 => ?_
      have L7 : lay h7 := eh7 ▸ layI L5 (by decide)
      refine mX_to 1 (k' := 26) (ls' := [some (.ref 8), some (.int a1), some (.int a2)]) (st' := [.ref 8]) (h' := h7) rfl ?_
      refine mX_ckv (v := .ref (gR h7 8 2)) (v' := .ref 43) (k' := 27) (ls' := [some (.ref 8), some (.int a1), some (.int a2)]) (st' := []) (h' := h7) (k_8 L7) (congrArg Value.ref (r_8_2 L7)) rfl ?_
      refine mX_ckct (m := mcl (mE mtab d 139 [.ref 43] h7) 1 28 [some (.ref 8), some (.int a1), some (.int a2)] []) (k_43 L7) rfl ?_
      refine mk_cIe (o := F_X9_tipNow d 43 h7) ?_
      intro x9 h8 eh8
      have L8 : lay h8 := lay_call d 139 [.ref 43] h7 _ h8 rfl eh8 L7
      exact mX_reti rfl
theorem S_X11_tip {h : MH} (L : lay h) (d : Nat) (a1 : Int32) (a2 : Int32) : F_X11_tip (d + 1) a1 a2 h = cI (F_X11_isPerson d a1 h) (fun x2 h1 => (if x2 = 0 then some (.int (-1000), h1) else cI (F_X11_isPlace d a2 h1) (fun x4 h3 => (if x4 = 0 then some (.int (-1000), h3) else cI (F_X11_tipNow d h3) (fun x6 h5 => ck (ib (22 + a1) 1498) (ck (ib (9 + a1) 1498) (some (.int (x6 + ((gI h5 68 (ix (22 + a1))) * (a2 - (gI h5 68 (ix (9 + a1)))))), h5)))))))) := by
  refine mE_eq (q := (yX11_tip, cX11_tip, 3, (some .int), KX11_tip)) (C := KX11_tip) (ls := [some (.ref 67), some (.int a1), some (.int a2)]) rfl rfl rfl rfl ?_
  refine mX_to 2 (k' := 2) (ls' := [some (.ref 67), some (.int a1), some (.int a2)]) (st' := [.int a1, .ref 67]) (h' := h) rfl ?_
  refine mX_ckct (m := mcl (mE mtab d 20 [.ref 67, .int a1] h) 1 3 [some (.ref 67), some (.int a1), some (.int a2)] []) (k_67 L) rfl ?_
  refine mk_cIe (o := F_X11_isPerson d a1 h) ?_
  intro x2 h1 eh1
  have L1 : lay h1 := lay_call d 20 [.ref 67, .int a1] h _ h1 rfl eh1 L
  refine mX_br (t := 26) (f := 4) (ls' := [some (.ref 67), some (.int a1), some (.int a2)]) (st' := []) (h' := h1) rfl ?_ ?_
  · refine mX_to 1 (k' := 27) (ls' := [some (.ref 67), some (.int a1), some (.int a2)]) (st' := [.int (-1000)]) (h' := h1) rfl ?_
    exact mX_reti rfl
  · refine mX_to 1 (k' := 5) (ls' := [some (.ref 67), some (.int a1), some (.int a2)]) (st' := [.int a2]) (h' := h1) rfl ?_
    refine mX_cIe (o := F_X11_isPlace d a2 h1) (k' := 6) (ls' := [some (.ref 67), some (.int a1), some (.int a2)]) (st' := []) rfl ?_
    intro x4 h3 eh3
    have L3 : lay h3 := lay_call d 15 [.int a2] h1 _ h3 rfl eh3 L1
    refine mX_br (t := 26) (f := 7) (ls' := [some (.ref 67), some (.int a1), some (.int a2)]) (st' := []) (h' := h3) rfl ?_ ?_
    · refine mX_to 1 (k' := 27) (ls' := [some (.ref 67), some (.int a1), some (.int a2)]) (st' := [.int (-1000)]) (h' := h3) rfl ?_
      exact mX_reti rfl
    · refine mX_to 1 (k' := 8) (ls' := [some (.ref 67), some (.int a1), some (.int a2)]) (st' := [.ref 67]) (h' := h3) rfl ?_
      refine mX_ckct (m := mcl (mE mtab d 156 [.ref 67] h3) 1 9 [some (.ref 67), some (.int a1), some (.int a2)] []) (k_67 L3) rfl ?_
      refine mk_cIe (o := F_X11_tipNow d h3) ?_
      intro x6 h5 eh5
      have L5 : lay h5 := lay_call d 156 [.ref 67] h3 _ h5 rfl eh5 L3
      refine mX_to 1 (k' := 10) (ls' := [some (.ref 67), some (.int a1), some (.int a2)]) (st' := [.ref 67, .int x6]) (h' := h5) rfl ?_
      refine mX_ckv (v := .ref (gR h5 67 0)) (v' := .ref 68) (k' := 11) (ls' := [some (.ref 67), some (.int a1), some (.int a2)]) (st' := [.int x6]) (h' := h5) (k_67 L5) (congrArg Value.ref (r_67_0 L5)) rfl ?_
      refine mX_to 3 (k' := 14) (ls' := [some (.ref 67), some (.int a1), some (.int a2)]) (st' := [.int (22 + a1), .ref 68, .int x6]) (h' := h5) rfl ?_
      refine mX_ckw (v := .int (gI h5 68 (ix (22 + a1)))) (v' := .int (gI h5 68 (ix (22 + a1)))) (k' := 15) (ls' := [some (.ref 67), some (.int a1), some (.int a2)]) (st' := [.int x6]) (h' := h5) (ckA1 (k_68 L5) (n_68 L5)) rfl rfl fun c8 => ?_
      refine mX_to 2 (k' := 17) (ls' := [some (.ref 67), some (.int a1), some (.int a2)]) (st' := [.ref 67, .int a2, .int (gI h5 68 (ix (22 + a1))), .int x6]) (h' := h5) rfl ?_
      refine mX_ckv (v := .ref (gR h5 67 0)) (v' := .ref 68) (k' := 18) (ls' := [some (.ref 67), some (.int a1), some (.int a2)]) (st' := [.int a2, .int (gI h5 68 (ix (22 + a1))), .int x6]) (h' := h5) (k_67 L5) (congrArg Value.ref (r_67_0 L5)) rfl ?_
      refine mX_to 3 (k' := 21) (ls' := [some (.ref 67), some (.int a1), some (.int a2)]) (st' := [.int (9 + a1), .ref 68, .int a2, .int (gI h5 68 (ix (22 + a1))), .int x6]) (h' := h5) rfl ?_
      refine mX_ckw (v := .int (gI h5 68 (ix (9 + a1)))) (v' := .int (gI h5 68 (ix (9 + a1)))) (k' := 22) (ls' := [some (.ref 67), some (.int a1), some (.int a2)]) (st' := [.int a2, .int (gI h5 68 (ix (22 + a1))), .int x6]) (h' := h5) (ckA1 (k_68 L5) (n_68 L5)) rfl rfl fun c7 => ?_
      refine mX_to 4 (k' := 27) (ls' := [some (.ref 67), some (.int a1), some (.int a2)]) (st' := [.int (x6 + ((gI h5 68 (ix (22 + a1))) * (a2 - (gI h5 68 (ix (9 + a1))))))]) (h' := h5) rfl ?_
      exact mX_reti rfl
theorem S_X9_standing_4 {h : MH} (L : lay h) (d : Nat) (q : Nat) (T : tAt q) (l1 : Int32) (l2 : Int32) : G_X9_standing_4 d q l1 l2 h = (if l2 < (gI h q 0) then ck (ib l2 4) (ck (ib l2 5) (lt_ (l1 + ((gI h (q + 2) (ix l2)) * (gI h 2 (ix l2)))) fun v1 => G_X9_standing_4 d q v1 (l2 + 1) h)) else some (.int l1, h)) := by
  refine mX_to 2 (k' := 6) (ls' := [some (.ref q), some (.int l1), some (.int l2)]) (st' := [.ref q, .int l2]) (h' := h) rfl ?_
  refine mX_ckv (v := .int (gI h q 0)) (v' := .int (gI h q 0)) (k' := 7) (ls' := [some (.ref q), some (.int l1), some (.int l2)]) (st' := [.int l2]) (h' := h) (kT0 L T) rfl rfl ?_
  refine mX_br (t := 8) (f := 21) (ls' := [some (.ref q), some (.int l1), some (.int l2)]) (st' := []) (h' := h) rfl ?_ ?_
  · refine mX_to 2 (k' := 10) (ls' := [some (.ref q), some (.int l1), some (.int l2)]) (st' := [.ref q, .int l1]) (h' := h) rfl ?_
    refine mX_ckv (v := .ref (gR h q 2)) (v' := .ref (q + 2)) (k' := 11) (ls' := [some (.ref q), some (.int l1), some (.int l2)]) (st' := [.int l1]) (h' := h) (kT0 L T) (congrArg Value.ref (rT2 L T)) rfl ?_
    refine mX_to 1 (k' := 12) (ls' := [some (.ref q), some (.int l1), some (.int l2)]) (st' := [.int l2, .ref (q + 2), .int l1]) (h' := h) rfl ?_
    refine mX_ckw (v := .int (gI h (q + 2) (ix l2))) (v' := .int (gI h (q + 2) (ix l2))) (k' := 13) (ls' := [some (.ref q), some (.int l1), some (.int l2)]) (st' := [.int l1]) (h' := h) (ckA1 (kT2 L T) (nT2 L T)) rfl rfl fun c3 => ?_
    refine mX_to 2 (k' := 15) (ls' := [some (.ref q), some (.int l1), some (.int l2)]) (st' := [.int l2, .ref 2, .int (gI h (q + 2) (ix l2)), .int l1]) (h' := h) rfl ?_
    refine mX_ckw (v := .int (gI h 2 (ix l2))) (v' := .int (gI h 2 (ix l2))) (k' := 16) (ls' := [some (.ref q), some (.int l1), some (.int l2)]) (st' := [.int (gI h (q + 2) (ix l2)), .int l1]) (h' := h) (ckA2 (k_2 L) (n_2 L)) rfl rfl fun c2 => ?_
    refine mX_to 2 (k' := 18) (ls' := [some (.ref q), some (.int l1), some (.int l2)]) (st' := [.int (l1 + ((gI h (q + 2) (ix l2)) * (gI h 2 (ix l2))))]) (h' := h) rfl ?_
    refine lt_gen (X := fun v1 : Int32 => mX (mE mtab d) KX9_standing 18 [some (.ref q), some (.int l1), some (.int l2)] [.int v1] h) fun v1 => ?_
    refine mX_to 3 (k' := 4) (ls' := [some (.ref q), some (.int v1), some (.int (l2 + 1))]) (st' := []) (h' := h) rfl ?_
    rfl
  · refine mX_to 1 (k' := 22) (ls' := [some (.ref q), some (.int l1), some (.int l2)]) (st' := [.int l1]) (h' := h) rfl ?_
    exact mX_reti rfl
theorem S_X9_standing {h : MH} (L : lay h) (d : Nat) (q : Nat) (T : tAt q) : F_X9_standing (d + 1) q h = G_X9_standing_4 d q 0 0 h := by
  refine mE_eq (q := (yX9_standing, cX9_standing, 3, (some .int), KX9_standing)) (C := KX9_standing) (ls := [some (.ref q), none, none]) rfl rfl rfl rfl ?_
  refine mX_to 4 (k' := 4) (ls' := [some (.ref q), some (.int 0), some (.int 0)]) (st' := []) (h' := h) rfl ?_
  rfl
theorem S_X9_allHome_2 {h : MH} (L : lay h) (d : Nat) (q : Nat) (T : tAt q) (l1 : Int32) : G_X9_allHome_2 d q l1 h = (if l1 < (gI h q 0) then ck (ib l1 4) ((if (gI h (q + 3) (ix l1)) = (-1) then G_X9_allHome_23 d q l1 h else ck (ib l1 4) (ck (ib l1 4) ((if (gI h (q + 3) (ix l1)) = (gI h (q + 2) (ix l1)) then G_X9_allHome_23 d q l1 h else some (.int 0, h)))))) else some (.int 1, h)) := by
  refine mX_to 2 (k' := 4) (ls' := [some (.ref q), some (.int l1)]) (st' := [.ref q, .int l1]) (h' := h) rfl ?_
  refine mX_ckv (v := .int (gI h q 0)) (v' := .int (gI h q 0)) (k' := 5) (ls' := [some (.ref q), some (.int l1)]) (st' := [.int l1]) (h' := h) (kT0 L T) rfl rfl ?_
  refine mX_br (t := 6) (f := 25) (ls' := [some (.ref q), some (.int l1)]) (st' := []) (h' := h) rfl ?_ ?_
  · refine mX_to 1 (k' := 7) (ls' := [some (.ref q), some (.int l1)]) (st' := [.ref q]) (h' := h) rfl ?_
    refine mX_ckv (v := .ref (gR h q 3)) (v' := .ref (q + 3)) (k' := 8) (ls' := [some (.ref q), some (.int l1)]) (st' := []) (h' := h) (kT0 L T) (congrArg Value.ref (rT3 L T)) rfl ?_
    refine mX_to 1 (k' := 9) (ls' := [some (.ref q), some (.int l1)]) (st' := [.int l1, .ref (q + 3)]) (h' := h) rfl ?_
    refine mX_ckw (v := .int (gI h (q + 3) (ix l1))) (v' := .int (gI h (q + 3) (ix l1))) (k' := 10) (ls' := [some (.ref q), some (.int l1)]) (st' := []) (h' := h) (ckA1 (kT3 L T) (nT3 L T)) rfl rfl fun c3 => ?_
    refine mX_to 1 (k' := 11) (ls' := [some (.ref q), some (.int l1)]) (st' := [.int (-1), .int (gI h (q + 3) (ix l1))]) (h' := h) rfl ?_
    refine mX_br (t := 23) (f := 12) (ls' := [some (.ref q), some (.int l1)]) (st' := []) (h' := h) rfl ?_ ?_
    · rfl
    · refine mX_to 1 (k' := 13) (ls' := [some (.ref q), some (.int l1)]) (st' := [.ref q]) (h' := h) rfl ?_
      refine mX_ckv (v := .ref (gR h q 3)) (v' := .ref (q + 3)) (k' := 14) (ls' := [some (.ref q), some (.int l1)]) (st' := []) (h' := h) (kT0 L T) (congrArg Value.ref (rT3 L T)) rfl ?_
      refine mX_to 1 (k' := 15) (ls' := [some (.ref q), some (.int l1)]) (st' := [.int l1, .ref (q + 3)]) (h' := h) rfl ?_
      refine mX_ckw (v := .int (gI h (q + 3) (ix l1))) (v' := .int (gI h (q + 3) (ix l1))) (k' := 16) (ls' := [some (.ref q), some (.int l1)]) (st' := []) (h' := h) (ckA1 (kT3 L T) (nT3 L T)) rfl rfl fun c2 => ?_
      refine mX_to 1 (k' := 17) (ls' := [some (.ref q), some (.int l1)]) (st' := [.ref q, .int (gI h (q + 3) (ix l1))]) (h' := h) rfl ?_
      refine mX_ckv (v := .ref (gR h q 2)) (v' := .ref (q + 2)) (k' := 18) (ls' := [some (.ref q), some (.int l1)]) (st' := [.int (gI h (q + 3) (ix l1))]) (h' := h) (kT0 L T) (congrArg Value.ref (rT2 L T)) rfl ?_
      refine mX_to 1 (k' := 19) (ls' := [some (.ref q), some (.int l1)]) (st' := [.int l1, .ref (q + 2), .int (gI h (q + 3) (ix l1))]) (h' := h) rfl ?_
      refine mX_ckw (v := .int (gI h (q + 2) (ix l1))) (v' := .int (gI h (q + 2) (ix l1))) (k' := 20) (ls' := [some (.ref q), some (.int l1)]) (st' := [.int (gI h (q + 3) (ix l1))]) (h' := h) (ckA1 (kT2 L T) (nT2 L T)) rfl rfl fun c1 => ?_
      refine mX_br (t := 23) (f := 21) (ls' := [some (.ref q), some (.int l1)]) (st' := []) (h' := h) rfl ?_ ?_
      · rfl
      · refine mX_to 1 (k' := 22) (ls' := [some (.ref q), some (.int l1)]) (st' := [.int 0]) (h' := h) rfl ?_
        exact mX_retb (by decide) rfl
  · refine mX_to 1 (k' := 26) (ls' := [some (.ref q), some (.int l1)]) (st' := [.int 1]) (h' := h) rfl ?_
    exact mX_retb (by decide) rfl
theorem S_X9_allHome_23 {h : MH} (L : lay h) (d : Nat) (q : Nat) (T : tAt q) (l1 : Int32) : G_X9_allHome_23 d q l1 h = G_X9_allHome_2 d q (l1 + 1) h := by
  refine mX_to 2 (k' := 2) (ls' := [some (.ref q), some (.int (l1 + 1))]) (st' := []) (h' := h) rfl ?_
  rfl
theorem S_X9_allHome {h : MH} (L : lay h) (d : Nat) (q : Nat) (T : tAt q) : F_X9_allHome (d + 1) q h = G_X9_allHome_2 d q 0 h := by
  refine mE_eq (q := (yX9_allHome, cX9_allHome, 2, (some .boolean), KX9_allHome)) (C := KX9_allHome) (ls := [some (.ref q), none]) rfl rfl rfl rfl ?_
  refine mX_to 2 (k' := 2) (ls' := [some (.ref q), some (.int 0)]) (st' := []) (h' := h) rfl ?_
  rfl
theorem S_X5_come {h : MH} (L : lay h) (d : Nat) (a2 : Int32) (a3 : Int32) : F_X5_come (d + 1) a2 a3 h = (if (gI h 60 2) < 6561 then ck (ib a2 6561) (lt_ (sI h 61 (ix a2) a3) fun h2 => ck (ib (gI h2 60 2) 6561) (lt_ (sI h2 62 (ix (gI h2 60 2)) a2) fun h4 => lt_ (sI h4 60 2 ((gI h4 60 2) + 1)) fun h6 => (if (gI h6 60 3) = (-1) then cI (F_X9_allHome d 43 h6) (fun x8 h7 => (if x8 = 0 then some (.int 0, h7) else lt_ (sI h7 60 3 a2) fun h10 => some (.int 0, h10))) else some (.int 0, h6)))) else some (.int 0, h)) := by
  refine mE_eq (q := (yX5_come, cX5_come, 4, none, KX5_come)) (C := KX5_come) (ls := [some (.ref 60), some (.ref 43), some (.int a2), some (.int a3)]) rfl rfl rfl rfl ?_
  refine mX_to 1 (k' := 1) (ls' := [some (.ref 60), some (.ref 43), some (.int a2), some (.int a3)]) (st' := [.ref 60]) (h' := h) rfl ?_
  refine mX_ckv (v := .int (gI h 60 2)) (v' := .int (gI h 60 2)) (k' := 2) (ls' := [some (.ref 60), some (.ref 43), some (.int a2), some (.int a3)]) (st' := []) (h' := h) (k_60 L) rfl rfl ?_
  refine mX_to 1 (k' := 3) (ls' := [some (.ref 60), some (.ref 43), some (.int a2), some (.int a3)]) (st' := [.int 6561, .int (gI h 60 2)]) (h' := h) rfl ?_
  refine mX_br (t := 5) (f := 4) (ls' := [some (.ref 60), some (.ref 43), some (.int a2), some (.int a3)]) (st' := []) (h' := h) rfl ?_ ?_
  · refine mX_to 1 (k' := 6) (ls' := [some (.ref 60), some (.ref 43), some (.int a2), some (.int a3)]) (st' := [.ref 60]) (h' := h) rfl ?_
    refine mX_ckv (v := .ref (gR h 60 0)) (v' := .ref 61) (k' := 7) (ls' := [some (.ref 60), some (.ref 43), some (.int a2), some (.int a3)]) (st' := []) (h' := h) (k_60 L) (congrArg Value.ref (r_60_0 L)) rfl ?_
    refine mX_to 2 (k' := 9) (ls' := [some (.ref 60), some (.ref 43), some (.int a2), some (.int a3)]) (st' := [.int a3, .int a2, .ref 61]) (h' := h) rfl ?_
    refine mX_cki (k' := 10) (ls' := [some (.ref 60), some (.ref 43), some (.int a2), some (.int a3)]) (st' := []) (h' := (sI h 61 (ix a2) a3)) (ckA0 (k_61 L) (n_61 L)) rfl fun c1 => ?_
    refine lt_geq2 (X := fun h2 : MH => mX (mE mtab d) KX5_come 10 [some (.ref 60), some (.ref 43), some (.int a2), some (.int a3)] [] h2) (a := (sI h 61 (ix a2) a3)) (a' := (sI h 61 (ix a2) a3)) rfl fun h2 eh2 => ?_
    have L2 : lay h2 := eh2 ▸ layI L (by decide)
    refine mX_to 1 (k' := 11) (ls' := [some (.ref 60), some (.ref 43), some (.int a2), some (.int a3)]) (st' := [.ref 60]) (h' := h2) rfl ?_
    refine mX_ckv (v := .ref (gR h2 60 1)) (v' := .ref 62) (k' := 12) (ls' := [some (.ref 60), some (.ref 43), some (.int a2), some (.int a3)]) (st' := []) (h' := h2) (k_60 L2) (congrArg Value.ref (r_60_1 L2)) rfl ?_
    refine mX_to 1 (k' := 13) (ls' := [some (.ref 60), some (.ref 43), some (.int a2), some (.int a3)]) (st' := [.ref 60, .ref 62]) (h' := h2) rfl ?_
    refine mX_ckv (v := .int (gI h2 60 2)) (v' := .int (gI h2 60 2)) (k' := 14) (ls' := [some (.ref 60), some (.ref 43), some (.int a2), some (.int a3)]) (st' := [.ref 62]) (h' := h2) (k_60 L2) rfl rfl ?_
    refine mX_to 1 (k' := 15) (ls' := [some (.ref 60), some (.ref 43), some (.int a2), some (.int a3)]) (st' := [.int a2, .int (gI h2 60 2), .ref 62]) (h' := h2) rfl ?_
    refine mX_cki (k' := 16) (ls' := [some (.ref 60), some (.ref 43), some (.int a2), some (.int a3)]) (st' := []) (h' := (sI h2 62 (ix (gI h2 60 2)) a2)) (ckA0 (k_62 L2) (n_62 L2)) rfl fun c3 => ?_
    refine lt_geq2 (X := fun h4 : MH => mX (mE mtab d) KX5_come 16 [some (.ref 60), some (.ref 43), some (.int a2), some (.int a3)] [] h4) (a := (sI h2 62 (ix (gI h2 60 2)) a2)) (a' := (sI h2 62 (ix (gI h2 60 2)) a2)) rfl fun h4 eh4 => ?_
    have L4 : lay h4 := eh4 ▸ layI L2 (by decide)
    refine mX_to 2 (k' := 18) (ls' := [some (.ref 60), some (.ref 43), some (.int a2), some (.int a3)]) (st' := [.ref 60, .ref 60]) (h' := h4) rfl ?_
    refine mX_ckv (v := .int (gI h4 60 2)) (v' := .int (gI h4 60 2)) (k' := 19) (ls' := [some (.ref 60), some (.ref 43), some (.int a2), some (.int a3)]) (st' := [.ref 60]) (h' := h4) (k_60 L4) rfl rfl ?_
    refine mX_to 2 (k' := 21) (ls' := [some (.ref 60), some (.ref 43), some (.int a2), some (.int a3)]) (st' := [.int ((gI h4 60 2) + 1), .ref 60]) (h' := h4) rfl ?_
    refine mX_ckt (k' := 22) (ls' := [some (.ref 60), some (.ref 43), some (.int a2), some (.int a3)]) (st' := []) (h' := (sI h4 60 2 ((gI h4 60 2) + 1))) (k_60 L4) rfl ?_
    refine lt_geq2 (X := fun h6 : MH => mX (mE mtab d) KX5_come 22 [some (.ref 60), some (.ref 43), some (.int a2), some (.int a3)] [] h6) (a := (sI h4 60 2 ((gI h4 60 2) + 1))) (a' := (sI h4 60 2 ((gI h4 60 2) + 1))) rfl fun h6 eh6 => ?_
    have L6 : lay h6 := eh6 ▸ layI L4 (by decide)
    refine mX_to 1 (k' := 23) (ls' := [some (.ref 60), some (.ref 43), some (.int a2), some (.int a3)]) (st' := [.ref 60]) (h' := h6) rfl ?_
    refine mX_ckv (v := .int (gI h6 60 3)) (v' := .int (gI h6 60 3)) (k' := 24) (ls' := [some (.ref 60), some (.ref 43), some (.int a2), some (.int a3)]) (st' := []) (h' := h6) (k_60 L6) rfl rfl ?_
    refine mX_to 1 (k' := 25) (ls' := [some (.ref 60), some (.ref 43), some (.int a2), some (.int a3)]) (st' := [.int (-1), .int (gI h6 60 3)]) (h' := h6) rfl ?_
    refine mX_br (t := 26) (f := 32) (ls' := [some (.ref 60), some (.ref 43), some (.int a2), some (.int a3)]) (st' := []) (h' := h6) rfl ?_ ?_
    · refine mX_to 1 (k' := 27) (ls' := [some (.ref 60), some (.ref 43), some (.int a2), some (.int a3)]) (st' := [.ref 43]) (h' := h6) rfl ?_
      refine mX_ckct (m := mcl (mE mtab d 233 [.ref 43] h6) 1 28 [some (.ref 60), some (.ref 43), some (.int a2), some (.int a3)] []) (k_43 L6) rfl ?_
      refine mk_cIe (o := F_X9_allHome d 43 h6) ?_
      intro x8 h7 eh7
      have L7 : lay h7 := lay_call d 233 [.ref 43] h6 _ h7 rfl eh7 L6
      refine mX_br (t := 32) (f := 29) (ls' := [some (.ref 60), some (.ref 43), some (.int a2), some (.int a3)]) (st' := []) (h' := h7) rfl ?_ ?_
      · exact mX_ret rfl
      · refine mX_to 2 (k' := 31) (ls' := [some (.ref 60), some (.ref 43), some (.int a2), some (.int a3)]) (st' := [.int a2, .ref 60]) (h' := h7) rfl ?_
        refine mX_ckt (k' := 32) (ls' := [some (.ref 60), some (.ref 43), some (.int a2), some (.int a3)]) (st' := []) (h' := (sI h7 60 3 a2)) (k_60 L7) rfl ?_
        refine lt_geq2 (X := fun h10 : MH => mX (mE mtab d) KX5_come 32 [some (.ref 60), some (.ref 43), some (.int a2), some (.int a3)] [] h10) (a := (sI h7 60 3 a2)) (a' := (sI h7 60 3 a2)) rfl fun h10 eh10 => ?_
        have L10 : lay h10 := eh10 ▸ layI L7 (by decide)
        exact mX_ret rfl
    · exact mX_ret rfl
  · exact mX_ret rfl
theorem S_X5_shifted_19 {h : MH} (L : lay h) (d : Nat) (l0 : Int32) (l1 : Int32) (l2 : Int32) (l3 : Int32) (l4 : Int32) (s0 : Int32) (s1 : Int32) : G_X5_shifted_19 d l0 l1 l2 l3 l4 s0 s1 h = (if s1 = s0 then some (.int (-1), h) else (if l3 = 0 then ck (ib l2 5) (some (.int (l1 - (gI h 2 (ix l2))), h)) else ck (ib l2 5) (some (.int (l1 + (gI h 2 (ix l2))), h)))) := by
  refine mX_br (t := 20) (f := 22) (ls' := [some (.int l0), some (.int l1), some (.int l2), some (.int l3), some (.int l4)]) (st' := []) (h' := h) rfl ?_ ?_
  · refine mX_to 1 (k' := 21) (ls' := [some (.int l0), some (.int l1), some (.int l2), some (.int l3), some (.int l4)]) (st' := [.int (-1)]) (h' := h) rfl ?_
    exact mX_reti rfl
  · refine mX_to 1 (k' := 23) (ls' := [some (.int l0), some (.int l1), some (.int l2), some (.int l3), some (.int l4)]) (st' := [.int l3]) (h' := h) rfl ?_
    refine mX_br (t := 30) (f := 24) (ls' := [some (.int l0), some (.int l1), some (.int l2), some (.int l3), some (.int l4)]) (st' := []) (h' := h) rfl ?_ ?_
    · refine mX_to 3 (k' := 33) (ls' := [some (.int l0), some (.int l1), some (.int l2), some (.int l3), some (.int l4)]) (st' := [.int l2, .ref 2, .int l1]) (h' := h) rfl ?_
      refine mX_ckw (v := .int (gI h 2 (ix l2))) (v' := .int (gI h 2 (ix l2))) (k' := 34) (ls' := [some (.int l0), some (.int l1), some (.int l2), some (.int l3), some (.int l4)]) (st' := [.int l1]) (h' := h) (ckA2 (k_2 L) (n_2 L)) rfl rfl fun c3 => ?_
      refine mX_to 1 (k' := 35) (ls' := [some (.int l0), some (.int l1), some (.int l2), some (.int l3), some (.int l4)]) (st' := [.int (l1 - (gI h 2 (ix l2)))]) (h' := h) rfl ?_
      exact mX_reti rfl
    · refine mX_to 3 (k' := 27) (ls' := [some (.int l0), some (.int l1), some (.int l2), some (.int l3), some (.int l4)]) (st' := [.int l2, .ref 2, .int l1]) (h' := h) rfl ?_
      refine mX_ckw (v := .int (gI h 2 (ix l2))) (v' := .int (gI h 2 (ix l2))) (k' := 28) (ls' := [some (.int l0), some (.int l1), some (.int l2), some (.int l3), some (.int l4)]) (st' := [.int l1]) (h' := h) (ckA2 (k_2 L) (n_2 L)) rfl rfl fun c4 => ?_
      refine mX_to 2 (k' := 35) (ls' := [some (.int l0), some (.int l1), some (.int l2), some (.int l3), some (.int l4)]) (st' := [.int (l1 + (gI h 2 (ix l2)))]) (h' := h) rfl ?_
      exact mX_reti rfl
theorem S_X5_shifted {h : MH} (L : lay h) (d : Nat) (a0 : Int32) (a1 : Int32) (a2 : Int32) (a3 : Int32) : F_X5_shifted (d + 1) a0 a1 a2 a3 h = (if a2 < a0 then ck (ib a2 5) (ck (¬ (gI h 2 (ix a2)) = 0) (lt_ ((a1 / (gI h 2 (ix a2))) - (a1 / (gI h 2 (ix a2))) / 9 * 9) fun v1 => (if a3 = 0 then G_X5_shifted_19 d a0 a1 a2 a3 v1 0 v1 h else G_X5_shifted_19 d a0 a1 a2 a3 v1 8 v1 h))) else some (.int (-1), h)) := by
  refine mE_eq (q := (yX5_shifted, cX5_shifted, 5, (some .int), KX5_shifted)) (C := KX5_shifted) (ls := [some (.int a0), some (.int a1), some (.int a2), some (.int a3), none]) rfl rfl rfl rfl ?_
  refine mX_to 2 (k' := 2) (ls' := [some (.int a0), some (.int a1), some (.int a2), some (.int a3), none]) (st' := [.int a0, .int a2]) (h' := h) rfl ?_
  refine mX_br (t := 5) (f := 3) (ls' := [some (.int a0), some (.int a1), some (.int a2), some (.int a3), none]) (st' := []) (h' := h) rfl ?_ ?_
  · refine mX_to 3 (k' := 8) (ls' := [some (.int a0), some (.int a1), some (.int a2), some (.int a3), none]) (st' := [.int a2, .ref 2, .int a1]) (h' := h) rfl ?_
    refine mX_ckw (v := .int (gI h 2 (ix a2))) (v' := .int (gI h 2 (ix a2))) (k' := 9) (ls' := [some (.int a0), some (.int a1), some (.int a2), some (.int a3), none]) (st' := [.int a1]) (h' := h) (ckA2 (k_2 L) (n_2 L)) rfl rfl fun c2 => ?_
    refine mX_ck (k' := 10) (ls' := [some (.int a0), some (.int a1), some (.int a2), some (.int a3), none]) (st' := [.int (a1 / (gI h 2 (ix a2)))]) (h' := h) rfl ?_
    refine mX_to 1 (k' := 11) (ls' := [some (.int a0), some (.int a1), some (.int a2), some (.int a3), none]) (st' := [.int 9, .int (a1 / (gI h 2 (ix a2)))]) (h' := h) rfl ?_
    refine mX_ckt (c := ¬ (9 : Int32) = 0) (k' := 12) (ls' := [some (.int a0), some (.int a1), some (.int a2), some (.int a3), none]) (st' := [.int ((a1 / (gI h 2 (ix a2))) - (a1 / (gI h 2 (ix a2))) / 9 * 9)]) (h' := h) (by decide) rfl ?_
    refine lt_gen (X := fun v1 : Int32 => mX (mE mtab d) KX5_shifted 12 [some (.int a0), some (.int a1), some (.int a2), some (.int a3), none] [.int v1] h) fun v1 => ?_
    refine mX_to 3 (k' := 15) (ls' := [some (.int a0), some (.int a1), some (.int a2), some (.int a3), some (.int v1)]) (st' := [.int a3, .int v1]) (h' := h) rfl ?_
    refine mX_br (t := 18) (f := 16) (ls' := [some (.int a0), some (.int a1), some (.int a2), some (.int a3), some (.int v1)]) (st' := [.int v1]) (h' := h) rfl ?_ ?_
    · refine mX_to 1 (k' := 19) (ls' := [some (.int a0), some (.int a1), some (.int a2), some (.int a3), some (.int v1)]) (st' := [.int 0, .int v1]) (h' := h) rfl ?_
      rfl
    · refine mX_to 2 (k' := 19) (ls' := [some (.int a0), some (.int a1), some (.int a2), some (.int a3), some (.int v1)]) (st' := [.int 8, .int v1]) (h' := h) rfl ?_
      rfl
  · refine mX_to 1 (k' := 4) (ls' := [some (.int a0), some (.int a1), some (.int a2), some (.int a3), none]) (st' := [.int (-1)]) (h' := h) rfl ?_
    exact mX_reti rfl
theorem S_X5_leadsTo_16 {h : MH} (L : lay h) (d : Nat) (l0 : Int32) (l1 : Int32) (l2 : Int32) (s0 : Int32) (s1 : Int32) (s2 : Int32) (s3 : Int32) : G_X5_leadsTo_16 d l0 l1 l2 s0 s1 s2 s3 h = cI (F_X5_shifted d s3 s2 s1 s0 h) (fun x4 h3 => some (.int x4, h3)) := by
  refine mX_cIe (o := F_X5_shifted d s3 s2 s1 s0 h) (k' := 17) (ls' := [some (.int l0), some (.int l1), some (.int l2), none, none, none, none]) (st' := []) rfl ?_
  intro x4 h3 eh3
  have L3 : lay h3 := lay_call d 235 [.int s3, .int s2, .int s1, .int s0] h _ h3 rfl eh3 L
  exact mX_reti rfl
theorem S_X5_leadsTo_52 {h : MH} (L : lay h) (d : Nat) (l0 : Int32) (l1 : Int32) (l2 : Int32) (l3 : Int32) (l4 : Int32) (l5 : Int32) (s0 : Int32) (s1 : Int32) (s2 : Int32) (s3 : Int32) : G_X5_leadsTo_52 d l0 l1 l2 l3 l4 l5 s0 s1 s2 s3 h = cI (F_X5_shifted d s3 s2 s1 s0 h) (fun x6 h5 => (if x6 = (-1) then some (.int (-1), h5) else (if (l3 - l3 / 2 * 2) = 1 then G_X5_leadsTo_70 d l0 l1 l2 l3 l4 l5 x6 1 l5 x6 l0 h5 else G_X5_leadsTo_70 d l0 l1 l2 l3 l4 l5 x6 0 l5 x6 l0 h5))) := by
  refine mX_cIe (o := F_X5_shifted d s3 s2 s1 s0 h) (k' := 53) (ls' := [some (.int l0), some (.int l1), some (.int l2), some (.int l3), some (.int l4), some (.int l5), none]) (st' := []) rfl ?_
  intro x6 h5 eh5
  have L5 : lay h5 := lay_call d 235 [.int s3, .int s2, .int s1, .int s0] h _ h5 rfl eh5 L
  refine mX_to 3 (k' := 56) (ls' := [some (.int l0), some (.int l1), some (.int l2), some (.int l3), some (.int l4), some (.int l5), some (.int x6)]) (st' := [.int (-1), .int x6]) (h' := h5) rfl ?_
  refine mX_br (t := 57) (f := 59) (ls' := [some (.int l0), some (.int l1), some (.int l2), some (.int l3), some (.int l4), some (.int l5), some (.int x6)]) (st' := []) (h' := h5) rfl ?_ ?_
  · refine mX_to 2 (k' := 71) (ls' := [some (.int l0), some (.int l1), some (.int l2), some (.int l3), some (.int l4), some (.int l5), some (.int x6)]) (st' := [.int (-1)]) (h' := h5) rfl ?_
    exact mX_reti rfl
  · refine mX_to 5 (k' := 64) (ls' := [some (.int l0), some (.int l1), some (.int l2), some (.int l3), some (.int l4), some (.int l5), some (.int x6)]) (st' := [.int 2, .int l3, .int l5, .int x6, .int l0]) (h' := h5) rfl ?_
    refine mX_ckt (c := ¬ (2 : Int32) = 0) (k' := 65) (ls' := [some (.int l0), some (.int l1), some (.int l2), some (.int l3), some (.int l4), some (.int l5), some (.int x6)]) (st' := [.int (l3 - l3 / 2 * 2), .int l5, .int x6, .int l0]) (h' := h5) (by decide) rfl ?_
    refine mX_to 1 (k' := 66) (ls' := [some (.int l0), some (.int l1), some (.int l2), some (.int l3), some (.int l4), some (.int l5), some (.int x6)]) (st' := [.int 1, .int (l3 - l3 / 2 * 2), .int l5, .int x6, .int l0]) (h' := h5) rfl ?_
    refine mX_br (t := 67) (f := 69) (ls' := [some (.int l0), some (.int l1), some (.int l2), some (.int l3), some (.int l4), some (.int l5), some (.int x6)]) (st' := [.int l5, .int x6, .int l0]) (h' := h5) rfl ?_ ?_
    · refine mX_to 2 (k' := 70) (ls' := [some (.int l0), some (.int l1), some (.int l2), some (.int l3), some (.int l4), some (.int l5), some (.int x6)]) (st' := [.int 1, .int l5, .int x6, .int l0]) (h' := h5) rfl ?_
      rfl
    · refine mX_to 1 (k' := 70) (ls' := [some (.int l0), some (.int l1), some (.int l2), some (.int l3), some (.int l4), some (.int l5), some (.int x6)]) (st' := [.int 0, .int l5, .int x6, .int l0]) (h' := h5) rfl ?_
      rfl
theorem S_X5_leadsTo_70 {h : MH} (L : lay h) (d : Nat) (l0 : Int32) (l1 : Int32) (l2 : Int32) (l3 : Int32) (l4 : Int32) (l5 : Int32) (l6 : Int32) (s0 : Int32) (s1 : Int32) (s2 : Int32) (s3 : Int32) : G_X5_leadsTo_70 d l0 l1 l2 l3 l4 l5 l6 s0 s1 s2 s3 h = cI (F_X5_shifted d s3 s2 s1 s0 h) (fun x8 h7 => some (.int x8, h7)) := by
  refine mX_cIe (o := F_X5_shifted d s3 s2 s1 s0 h) (k' := 71) (ls' := [some (.int l0), some (.int l1), some (.int l2), some (.int l3), some (.int l4), some (.int l5), some (.int l6)]) (st' := []) rfl ?_
  intro x8 h7 eh7
  have L7 : lay h7 := lay_call d 235 [.int s3, .int s2, .int s1, .int s0] h _ h7 rfl eh7 L
  exact mX_reti rfl
theorem S_X5_leadsTo {h : MH} (L : lay h) (d : Nat) (a0 : Int32) (a1 : Int32) (a2 : Int32) : F_X5_leadsTo (d + 1) a0 a1 a2 h = (if a2 < 8 then (if (a2 - a2 / 2 * 2) = 1 then G_X5_leadsTo_16 d a0 a1 a2 1 (a2 / 2) a1 a0 h else G_X5_leadsTo_16 d a0 a1 a2 0 (a2 / 2) a1 a0 h) else lt_ ((a2 - 10) / 16) fun v1 => lt_ (((a2 - 10) / 2) - ((a2 - 10) / 2) / 4 * 4) fun v2 => (if (a2 - 10) < 0 then some (.int (-1), h) else (if v1 < v2 then (if (((a2 - 10) / 8) - ((a2 - 10) / 8) / 2 * 2) = 1 then G_X5_leadsTo_52 d a0 a1 a2 (a2 - 10) v1 v2 1 v1 a1 a0 h else G_X5_leadsTo_52 d a0 a1 a2 (a2 - 10) v1 v2 0 v1 a1 a0 h) else some (.int (-1), h)))) := by
  refine mE_eq (q := (yX5_leadsTo, cX5_leadsTo, 7, (some .int), KX5_leadsTo)) (C := KX5_leadsTo) (ls := [some (.int a0), some (.int a1), some (.int a2), none, none, none, none]) rfl rfl rfl rfl ?_
  refine mX_to 2 (k' := 2) (ls' := [some (.int a0), some (.int a1), some (.int a2), none, none, none, none]) (st' := [.int 8, .int a2]) (h' := h) rfl ?_
  refine mX_br (t := 3) (f := 18) (ls' := [some (.int a0), some (.int a1), some (.int a2), none, none, none, none]) (st' := []) (h' := h) rfl ?_ ?_
  · refine mX_to 4 (k' := 7) (ls' := [some (.int a0), some (.int a1), some (.int a2), none, none, none, none]) (st' := [.int 2, .int a2, .int a1, .int a0]) (h' := h) rfl ?_
    refine mX_ckt (c := ¬ (2 : Int32) = 0) (k' := 8) (ls' := [some (.int a0), some (.int a1), some (.int a2), none, none, none, none]) (st' := [.int (a2 / 2), .int a1, .int a0]) (h' := h) (by decide) rfl ?_
    refine mX_to 2 (k' := 10) (ls' := [some (.int a0), some (.int a1), some (.int a2), none, none, none, none]) (st' := [.int 2, .int a2, .int (a2 / 2), .int a1, .int a0]) (h' := h) rfl ?_
    refine mX_ckt (c := ¬ (2 : Int32) = 0) (k' := 11) (ls' := [some (.int a0), some (.int a1), some (.int a2), none, none, none, none]) (st' := [.int (a2 - a2 / 2 * 2), .int (a2 / 2), .int a1, .int a0]) (h' := h) (by decide) rfl ?_
    refine mX_to 1 (k' := 12) (ls' := [some (.int a0), some (.int a1), some (.int a2), none, none, none, none]) (st' := [.int 1, .int (a2 - a2 / 2 * 2), .int (a2 / 2), .int a1, .int a0]) (h' := h) rfl ?_
    refine mX_br (t := 13) (f := 15) (ls' := [some (.int a0), some (.int a1), some (.int a2), none, none, none, none]) (st' := [.int (a2 / 2), .int a1, .int a0]) (h' := h) rfl ?_ ?_
    · refine mX_to 2 (k' := 16) (ls' := [some (.int a0), some (.int a1), some (.int a2), none, none, none, none]) (st' := [.int 1, .int (a2 / 2), .int a1, .int a0]) (h' := h) rfl ?_
      rfl
    · refine mX_to 1 (k' := 16) (ls' := [some (.int a0), some (.int a1), some (.int a2), none, none, none, none]) (st' := [.int 0, .int (a2 / 2), .int a1, .int a0]) (h' := h) rfl ?_
      rfl
  · refine mX_to 6 (k' := 24) (ls' := [some (.int a0), some (.int a1), some (.int a2), some (.int (a2 - 10)), none, none, none]) (st' := [.int 16, .int (a2 - 10)]) (h' := h) rfl ?_
    refine mX_ckt (c := ¬ (16 : Int32) = 0) (k' := 25) (ls' := [some (.int a0), some (.int a1), some (.int a2), some (.int (a2 - 10)), none, none, none]) (st' := [.int ((a2 - 10) / 16)]) (h' := h) (by decide) rfl ?_
    refine lt_gen (X := fun v1 : Int32 => mX (mE mtab d) KX5_leadsTo 25 [some (.int a0), some (.int a1), some (.int a2), some (.int (a2 - 10)), none, none, none] [.int v1] h) fun v1 => ?_
    refine mX_to 3 (k' := 28) (ls' := [some (.int a0), some (.int a1), some (.int a2), some (.int (a2 - 10)), some (.int v1), none, none]) (st' := [.int 2, .int (a2 - 10)]) (h' := h) rfl ?_
    refine mX_ckt (c := ¬ (2 : Int32) = 0) (k' := 29) (ls' := [some (.int a0), some (.int a1), some (.int a2), some (.int (a2 - 10)), some (.int v1), none, none]) (st' := [.int ((a2 - 10) / 2)]) (h' := h) (by decide) rfl ?_
    refine mX_to 1 (k' := 30) (ls' := [some (.int a0), some (.int a1), some (.int a2), some (.int (a2 - 10)), some (.int v1), none, none]) (st' := [.int 4, .int ((a2 - 10) / 2)]) (h' := h) rfl ?_
    refine mX_ckt (c := ¬ (4 : Int32) = 0) (k' := 31) (ls' := [some (.int a0), some (.int a1), some (.int a2), some (.int (a2 - 10)), some (.int v1), none, none]) (st' := [.int (((a2 - 10) / 2) - ((a2 - 10) / 2) / 4 * 4)]) (h' := h) (by decide) rfl ?_
    refine lt_gen (X := fun v2 : Int32 => mX (mE mtab d) KX5_leadsTo 31 [some (.int a0), some (.int a1), some (.int a2), some (.int (a2 - 10)), some (.int v1), none, none] [.int v2] h) fun v2 => ?_
    refine mX_to 2 (k' := 33) (ls' := [some (.int a0), some (.int a1), some (.int a2), some (.int (a2 - 10)), some (.int v1), some (.int v2), none]) (st' := [.int (a2 - 10)]) (h' := h) rfl ?_
    refine mX_br (t := 37) (f := 34) (ls' := [some (.int a0), some (.int a1), some (.int a2), some (.int (a2 - 10)), some (.int v1), some (.int v2), none]) (st' := []) (h' := h) rfl ?_ ?_
    · refine mX_to 1 (k' := 38) (ls' := [some (.int a0), some (.int a1), some (.int a2), some (.int (a2 - 10)), some (.int v1), some (.int v2), none]) (st' := [.int (-1)]) (h' := h) rfl ?_
      exact mX_reti rfl
    · refine mX_to 2 (k' := 36) (ls' := [some (.int a0), some (.int a1), some (.int a2), some (.int (a2 - 10)), some (.int v1), some (.int v2), none]) (st' := [.int v2, .int v1]) (h' := h) rfl ?_
      refine mX_br (t := 39) (f := 37) (ls' := [some (.int a0), some (.int a1), some (.int a2), some (.int (a2 - 10)), some (.int v1), some (.int v2), none]) (st' := []) (h' := h) rfl ?_ ?_
      · refine mX_to 5 (k' := 44) (ls' := [some (.int a0), some (.int a1), some (.int a2), some (.int (a2 - 10)), some (.int v1), some (.int v2), none]) (st' := [.int 8, .int (a2 - 10), .int v1, .int a1, .int a0]) (h' := h) rfl ?_
        refine mX_ckt (c := ¬ (8 : Int32) = 0) (k' := 45) (ls' := [some (.int a0), some (.int a1), some (.int a2), some (.int (a2 - 10)), some (.int v1), some (.int v2), none]) (st' := [.int ((a2 - 10) / 8), .int v1, .int a1, .int a0]) (h' := h) (by decide) rfl ?_
        refine mX_to 1 (k' := 46) (ls' := [some (.int a0), some (.int a1), some (.int a2), some (.int (a2 - 10)), some (.int v1), some (.int v2), none]) (st' := [.int 2, .int ((a2 - 10) / 8), .int v1, .int a1, .int a0]) (h' := h) rfl ?_
        refine mX_ckt (c := ¬ (2 : Int32) = 0) (k' := 47) (ls' := [some (.int a0), some (.int a1), some (.int a2), some (.int (a2 - 10)), some (.int v1), some (.int v2), none]) (st' := [.int (((a2 - 10) / 8) - ((a2 - 10) / 8) / 2 * 2), .int v1, .int a1, .int a0]) (h' := h) (by decide) rfl ?_
        refine mX_to 1 (k' := 48) (ls' := [some (.int a0), some (.int a1), some (.int a2), some (.int (a2 - 10)), some (.int v1), some (.int v2), none]) (st' := [.int 1, .int (((a2 - 10) / 8) - ((a2 - 10) / 8) / 2 * 2), .int v1, .int a1, .int a0]) (h' := h) rfl ?_
        refine mX_br (t := 49) (f := 51) (ls' := [some (.int a0), some (.int a1), some (.int a2), some (.int (a2 - 10)), some (.int v1), some (.int v2), none]) (st' := [.int v1, .int a1, .int a0]) (h' := h) rfl ?_ ?_
        · refine mX_to 2 (k' := 52) (ls' := [some (.int a0), some (.int a1), some (.int a2), some (.int (a2 - 10)), some (.int v1), some (.int v2), none]) (st' := [.int 1, .int v1, .int a1, .int a0]) (h' := h) rfl ?_
          rfl
        · refine mX_to 1 (k' := 52) (ls' := [some (.int a0), some (.int a1), some (.int a2), some (.int (a2 - 10)), some (.int v1), some (.int v2), none]) (st' := [.int 0, .int v1, .int a1, .int a0]) (h' := h) rfl ?_
          rfl
      · refine mX_to 1 (k' := 38) (ls' := [some (.int a0), some (.int a1), some (.int a2), some (.int (a2 - 10)), some (.int v1), some (.int v2), none]) (st' := [.int (-1)]) (h' := h) rfl ?_
        exact mX_reti rfl
theorem S_X9_standAs_2 {h : MH} (L : lay h) (d : Nat) (q : Nat) (T : tAt q) (l1 : Int32) (l2 : Int32) : G_X9_standAs_2 d q l1 l2 h = (if l2 < (gI h q 0) then ck (ib l2 5) (ck (¬ (gI h 2 (ix l2)) = 0) (ck (ib l2 4) (lt_ (sI h (q + 2) (ix l2) ((l1 / (gI h 2 (ix l2))) - (l1 / (gI h 2 (ix l2))) / 9 * 9)) fun h2 => G_X9_standAs_2 d q l1 (l2 + 1) h2))) else some (.int 0, h)) := by
  refine mX_to 2 (k' := 4) (ls' := [some (.ref q), some (.int l1), some (.int l2)]) (st' := [.ref q, .int l2]) (h' := h) rfl ?_
  refine mX_ckv (v := .int (gI h q 0)) (v' := .int (gI h q 0)) (k' := 5) (ls' := [some (.ref q), some (.int l1), some (.int l2)]) (st' := [.int l2]) (h' := h) (kT0 L T) rfl rfl ?_
  refine mX_br (t := 6) (f := 19) (ls' := [some (.ref q), some (.int l1), some (.int l2)]) (st' := []) (h' := h) rfl ?_ ?_
  · refine mX_to 1 (k' := 7) (ls' := [some (.ref q), some (.int l1), some (.int l2)]) (st' := [.ref q]) (h' := h) rfl ?_
    refine mX_ckv (v := .ref (gR h q 2)) (v' := .ref (q + 2)) (k' := 8) (ls' := [some (.ref q), some (.int l1), some (.int l2)]) (st' := []) (h' := h) (kT0 L T) (congrArg Value.ref (rT2 L T)) rfl ?_
    refine mX_to 4 (k' := 12) (ls' := [some (.ref q), some (.int l1), some (.int l2)]) (st' := [.int l2, .ref 2, .int l1, .int l2, .ref (q + 2)]) (h' := h) rfl ?_
    refine mX_ckw (v := .int (gI h 2 (ix l2))) (v' := .int (gI h 2 (ix l2))) (k' := 13) (ls' := [some (.ref q), some (.int l1), some (.int l2)]) (st' := [.int l1, .int l2, .ref (q + 2)]) (h' := h) (ckA2 (k_2 L) (n_2 L)) rfl rfl fun c3 => ?_
    refine mX_ck (k' := 14) (ls' := [some (.ref q), some (.int l1), some (.int l2)]) (st' := [.int (l1 / (gI h 2 (ix l2))), .int l2, .ref (q + 2)]) (h' := h) rfl ?_
    refine mX_to 1 (k' := 15) (ls' := [some (.ref q), some (.int l1), some (.int l2)]) (st' := [.int 9, .int (l1 / (gI h 2 (ix l2))), .int l2, .ref (q + 2)]) (h' := h) rfl ?_
    refine mX_ckt (c := ¬ (9 : Int32) = 0) (k' := 16) (ls' := [some (.ref q), some (.int l1), some (.int l2)]) (st' := [.int ((l1 / (gI h 2 (ix l2))) - (l1 / (gI h 2 (ix l2))) / 9 * 9), .int l2, .ref (q + 2)]) (h' := h) (by decide) rfl ?_
    refine mX_cki (k' := 17) (ls' := [some (.ref q), some (.int l1), some (.int l2)]) (st' := []) (h' := (sI h (q + 2) (ix l2) ((l1 / (gI h 2 (ix l2))) - (l1 / (gI h 2 (ix l2))) / 9 * 9))) (ckA0 (kT2 L T) (nT2 L T)) rfl fun c1 => ?_
    refine lt_geq2 (X := fun h2 : MH => mX (mE mtab d) KX9_standAs 17 [some (.ref q), some (.int l1), some (.int l2)] [] h2) (a := (sI h (q + 2) (ix l2) ((l1 / (gI h 2 (ix l2))) - (l1 / (gI h 2 (ix l2))) / 9 * 9))) (a' := (sI h (q + 2) (ix l2) ((l1 / (gI h 2 (ix l2))) - (l1 / (gI h 2 (ix l2))) / 9 * 9))) rfl fun h2 eh2 => ?_
    have L2 : lay h2 := eh2 ▸ layI L (neT2 T)
    refine mX_to 2 (k' := 2) (ls' := [some (.ref q), some (.int l1), some (.int (l2 + 1))]) (st' := []) (h' := h2) rfl ?_
    rfl
  · exact mX_ret rfl
theorem S_X9_standAs {h : MH} (L : lay h) (d : Nat) (q : Nat) (a1 : Int32) (T : tAt q) : F_X9_standAs (d + 1) q a1 h = G_X9_standAs_2 d q a1 0 h := by
  refine mE_eq (q := (yX9_standAs, cX9_standAs, 3, none, KX9_standAs)) (C := KX9_standAs) (ls := [some (.ref q), some (.int a1), none]) rfl rfl rfl rfl ?_
  refine mX_to 2 (k' := 2) (ls' := [some (.ref q), some (.int a1), some (.int 0)]) (st' := []) (h' := h) rfl ?_
  rfl
theorem S_X5_expand_5 {h : MH} (L : lay h) (d : Nat) (l2 : Int32) (l3 : Int32) (s0 : Int32) : G_X5_expand_5 d l2 l3 s0 h = G_X5_expand_8 d l2 l3 s0 0 none h := by
  refine mX_to 3 (k' := 8) (ls' := [some (.ref 60), some (.ref 43), some (.int l2), some (.int l3), some (.int s0), some (.int 0), none]) (st' := []) (h' := h) rfl ?_
  rfl
theorem S_X5_expand_8 {h : MH} (L : lay h) (d : Nat) (l2 : Int32) (l3 : Int32) (l4 : Int32) (l5 : Int32) (o6 : Option Value) : G_X5_expand_8 d l2 l3 l4 l5 o6 h = (if l5 < l4 then cI (F_X5_leadsTo d (gI h 43 0) l2 l5 h) (fun x2 h1 => (if x2 = (-1) then G_X5_expand_47 d l2 l3 l4 l5 x2 h1 else ck (ib x2 6561) ((if (gI h1 61 (ix x2)) = (-1) then cV (F_X9_standAs d 43 x2 h1) (fun h3 => cI (F_X9_holdsStill d 43 h3) (fun x5 h4 => (if x5 = 0 then ck (ib x2 6561) (lt_ (sI h4 61 (ix x2) (-2)) fun h7 => G_X5_expand_47 d l2 l3 l4 l5 x2 h7) else cV (F_X5_come d x2 ((l2 * 64) + l5) h4) (fun h8 => G_X5_expand_47 d l2 l3 l4 l5 x2 h8)))) else G_X5_expand_47 d l2 l3 l4 l5 x2 h1)))) else some (.int 0, h)) := by
  refine mX_to 2 (k' := 10) (ls' := [some (.ref 60), some (.ref 43), some (.int l2), some (.int l3), some (.int l4), some (.int l5), o6]) (st' := [.int l4, .int l5]) (h' := h) rfl ?_
  refine mX_br (t := 11) (f := 49) (ls' := [some (.ref 60), some (.ref 43), some (.int l2), some (.int l3), some (.int l4), some (.int l5), o6]) (st' := []) (h' := h) rfl ?_ ?_
  · refine mX_to 1 (k' := 12) (ls' := [some (.ref 60), some (.ref 43), some (.int l2), some (.int l3), some (.int l4), some (.int l5), o6]) (st' := [.ref 43]) (h' := h) rfl ?_
    refine mX_ckv (v := .int (gI h 43 0)) (v' := .int (gI h 43 0)) (k' := 13) (ls' := [some (.ref 60), some (.ref 43), some (.int l2), some (.int l3), some (.int l4), some (.int l5), o6]) (st' := []) (h' := h) (k_43 L) rfl rfl ?_
    refine mX_to 2 (k' := 15) (ls' := [some (.ref 60), some (.ref 43), some (.int l2), some (.int l3), some (.int l4), some (.int l5), o6]) (st' := [.int l5, .int l2, .int (gI h 43 0)]) (h' := h) rfl ?_
    refine mX_cIe (o := F_X5_leadsTo d (gI h 43 0) l2 l5 h) (k' := 16) (ls' := [some (.ref 60), some (.ref 43), some (.int l2), some (.int l3), some (.int l4), some (.int l5), o6]) (st' := []) rfl ?_
    intro x2 h1 eh1
    have L1 : lay h1 := lay_call d 236 [.int (gI h 43 0), .int l2, .int l5] h _ h1 rfl eh1 L
    refine mX_to 3 (k' := 19) (ls' := [some (.ref 60), some (.ref 43), some (.int l2), some (.int l3), some (.int l4), some (.int l5), some (.int x2)]) (st' := [.int (-1), .int x2]) (h' := h1) rfl ?_
    refine mX_br (t := 47) (f := 20) (ls' := [some (.ref 60), some (.ref 43), some (.int l2), some (.int l3), some (.int l4), some (.int l5), some (.int x2)]) (st' := []) (h' := h1) rfl ?_ ?_
    · rfl
    · refine mX_to 1 (k' := 21) (ls' := [some (.ref 60), some (.ref 43), some (.int l2), some (.int l3), some (.int l4), some (.int l5), some (.int x2)]) (st' := [.ref 60]) (h' := h1) rfl ?_
      refine mX_ckv (v := .ref (gR h1 60 0)) (v' := .ref 61) (k' := 22) (ls' := [some (.ref 60), some (.ref 43), some (.int l2), some (.int l3), some (.int l4), some (.int l5), some (.int x2)]) (st' := []) (h' := h1) (k_60 L1) (congrArg Value.ref (r_60_0 L1)) rfl ?_
      refine mX_to 1 (k' := 23) (ls' := [some (.ref 60), some (.ref 43), some (.int l2), some (.int l3), some (.int l4), some (.int l5), some (.int x2)]) (st' := [.int x2, .ref 61]) (h' := h1) rfl ?_
      refine mX_ckw (v := .int (gI h1 61 (ix x2))) (v' := .int (gI h1 61 (ix x2))) (k' := 24) (ls' := [some (.ref 60), some (.ref 43), some (.int l2), some (.int l3), some (.int l4), some (.int l5), some (.int x2)]) (st' := []) (h' := h1) (ckA1 (k_61 L1) (n_61 L1)) rfl rfl fun c9 => ?_
      refine mX_to 1 (k' := 25) (ls' := [some (.ref 60), some (.ref 43), some (.int l2), some (.int l3), some (.int l4), some (.int l5), some (.int x2)]) (st' := [.int (-1), .int (gI h1 61 (ix x2))]) (h' := h1) rfl ?_
      refine mX_br (t := 26) (f := 47) (ls' := [some (.ref 60), some (.ref 43), some (.int l2), some (.int l3), some (.int l4), some (.int l5), some (.int x2)]) (st' := []) (h' := h1) rfl ?_ ?_
      · refine mX_to 2 (k' := 28) (ls' := [some (.ref 60), some (.ref 43), some (.int l2), some (.int l3), some (.int l4), some (.int l5), some (.int x2)]) (st' := [.int x2, .ref 43]) (h' := h1) rfl ?_
        refine mX_ckct (m := mcl (mE mtab d 237 [.ref 43, .int x2] h1) 0 29 [some (.ref 60), some (.ref 43), some (.int l2), some (.int l3), some (.int l4), some (.int l5), some (.int x2)] []) (k_43 L1) rfl ?_
        refine mk_cVe (o := F_X9_standAs d 43 x2 h1) ?_
        intro wh3 h3 eh3
        have L3 : lay h3 := lay_call d 237 [.ref 43, .int x2] h1 _ h3 rfl eh3 L1
        refine mX_to 1 (k' := 30) (ls' := [some (.ref 60), some (.ref 43), some (.int l2), some (.int l3), some (.int l4), some (.int l5), some (.int x2)]) (st' := [.ref 43]) (h' := h3) rfl ?_
        refine mX_ckct (m := mcl (mE mtab d 146 [.ref 43] h3) 1 31 [some (.ref 60), some (.ref 43), some (.int l2), some (.int l3), some (.int l4), some (.int l5), some (.int x2)] []) (k_43 L3) rfl ?_
        refine mk_cIe (o := F_X9_holdsStill d 43 h3) ?_
        intro x5 h4 eh4
        have L4 : lay h4 := lay_call d 146 [.ref 43] h3 _ h4 rfl eh4 L3
        refine mX_br (t := 42) (f := 32) (ls' := [some (.ref 60), some (.ref 43), some (.int l2), some (.int l3), some (.int l4), some (.int l5), some (.int x2)]) (st' := []) (h' := h4) rfl ?_ ?_
        · refine mX_to 1 (k' := 43) (ls' := [some (.ref 60), some (.ref 43), some (.int l2), some (.int l3), some (.int l4), some (.int l5), some (.int x2)]) (st' := [.ref 60]) (h' := h4) rfl ?_
          refine mX_ckv (v := .ref (gR h4 60 0)) (v' := .ref 61) (k' := 44) (ls' := [some (.ref 60), some (.ref 43), some (.int l2), some (.int l3), some (.int l4), some (.int l5), some (.int x2)]) (st' := []) (h' := h4) (k_60 L4) (congrArg Value.ref (r_60_0 L4)) rfl ?_
          refine mX_to 2 (k' := 46) (ls' := [some (.ref 60), some (.ref 43), some (.int l2), some (.int l3), some (.int l4), some (.int l5), some (.int x2)]) (st' := [.int (-2), .int x2, .ref 61]) (h' := h4) rfl ?_
          refine mX_cki (k' := 47) (ls' := [some (.ref 60), some (.ref 43), some (.int l2), some (.int l3), some (.int l4), some (.int l5), some (.int x2)]) (st' := []) (h' := (sI h4 61 (ix x2) (-2))) (ckA0 (k_61 L4) (n_61 L4)) rfl fun c6 => ?_
          refine lt_geq2 (X := fun h7 : MH => mX (mE mtab d) KX5_expand 47 [some (.ref 60), some (.ref 43), some (.int l2), some (.int l3), some (.int l4), some (.int l5), some (.int x2)] [] h7) (a := (sI h4 61 (ix x2) (-2))) (a' := (sI h4 61 (ix x2) (-2))) rfl fun h7 eh7 => ?_
          have L7 : lay h7 := eh7 ▸ layI L4 (by decide)
          rfl
        · refine mX_to 8 (k' := 40) (ls' := [some (.ref 60), some (.ref 43), some (.int l2), some (.int l3), some (.int l4), some (.int l5), some (.int x2)]) (st' := [.int ((l2 * 64) + l5), .int x2, .ref 43, .ref 60]) (h' := h4) rfl ?_
          refine mX_ckct (m := mcl (mE mtab d 234 [.ref 60, .ref 43, .int x2, .int ((l2 * 64) + l5)] h4) 0 41 [some (.ref 60), some (.ref 43), some (.int l2), some (.int l3), some (.int l4), some (.int l5), some (.int x2)] []) (k_60 L4) rfl ?_
          refine mk_cVe (o := F_X5_come d x2 ((l2 * 64) + l5) h4) ?_
          intro wh8 h8 eh8
          have L8 : lay h8 := lay_call d 234 [.ref 60, .ref 43, .int x2, .int ((l2 * 64) + l5)] h4 _ h8 rfl eh8 L4
          refine mX_to 1 (k' := 47) (ls' := [some (.ref 60), some (.ref 43), some (.int l2), some (.int l3), some (.int l4), some (.int l5), some (.int x2)]) (st' := []) (h' := h8) rfl ?_
          rfl
      · rfl
  · exact mX_ret rfl
theorem S_X5_expand_47 {h : MH} (L : lay h) (d : Nat) (l2 : Int32) (l3 : Int32) (l4 : Int32) (l5 : Int32) (l6 : Int32) : G_X5_expand_47 d l2 l3 l4 l5 l6 h = G_X5_expand_8 d l2 l3 l4 (l5 + 1) (some (.int l6)) h := by
  refine mX_to 2 (k' := 8) (ls' := [some (.ref 60), some (.ref 43), some (.int l2), some (.int l3), some (.int l4), some (.int (l5 + 1)), some (.int l6)]) (st' := []) (h' := h) rfl ?_
  rfl
theorem S_X5_expand {h : MH} (L : lay h) (d : Nat) (a2 : Int32) (a3 : Int32) : F_X5_expand (d + 1) a2 a3 h = (if a3 = 0 then G_X5_expand_5 d a2 a3 8 h else G_X5_expand_5 d a2 a3 64 h) := by
  refine mE_eq (q := (yX5_expand, cX5_expand, 7, none, KX5_expand)) (C := KX5_expand) (ls := [some (.ref 60), some (.ref 43), some (.int a2), some (.int a3), none, none, none]) rfl rfl rfl rfl ?_
  refine mX_to 1 (k' := 1) (ls' := [some (.ref 60), some (.ref 43), some (.int a2), some (.int a3), none, none, none]) (st' := [.int a3]) (h' := h) rfl ?_
  refine mX_br (t := 4) (f := 2) (ls' := [some (.ref 60), some (.ref 43), some (.int a2), some (.int a3), none, none, none]) (st' := []) (h' := h) rfl ?_ ?_
  · refine mX_to 1 (k' := 5) (ls' := [some (.ref 60), some (.ref 43), some (.int a2), some (.int a3), none, none, none]) (st' := [.int 8]) (h' := h) rfl ?_
    rfl
  · refine mX_to 2 (k' := 5) (ls' := [some (.ref 60), some (.ref 43), some (.int a2), some (.int a3), none, none, none]) (st' := [.int 64]) (h' := h) rfl ?_
    rfl
theorem S_X5_explore_23 {h : MH} (L : lay h) (d : Nat) (l2 : Int32) (l3 : Int32) (l4 : Int32) : G_X5_explore_23 d l2 l3 l4 h = (if l4 < 6561 then (if l4 < (gI h 60 2) then (if l3 = 0 then G_X5_explore_36 d l2 l3 l4 h else (if (gI h 60 3) = (-1) then G_X5_explore_36 d l2 l3 l4 h else some (.int 0, h))) else some (.int 0, h)) else some (.int 0, h)) := by
  refine mX_to 2 (k' := 25) (ls' := [some (.ref 60), some (.ref 43), some (.int l2), some (.int l3), some (.int l4)]) (st' := [.int 6561, .int l4]) (h' := h) rfl ?_
  refine mX_br (t := 26) (f := 46) (ls' := [some (.ref 60), some (.ref 43), some (.int l2), some (.int l3), some (.int l4)]) (st' := []) (h' := h) rfl ?_ ?_
  · refine mX_to 2 (k' := 28) (ls' := [some (.ref 60), some (.ref 43), some (.int l2), some (.int l3), some (.int l4)]) (st' := [.ref 60, .int l4]) (h' := h) rfl ?_
    refine mX_ckv (v := .int (gI h 60 2)) (v' := .int (gI h 60 2)) (k' := 29) (ls' := [some (.ref 60), some (.ref 43), some (.int l2), some (.int l3), some (.int l4)]) (st' := [.int l4]) (h' := h) (k_60 L) rfl rfl ?_
    refine mX_br (t := 30) (f := 46) (ls' := [some (.ref 60), some (.ref 43), some (.int l2), some (.int l3), some (.int l4)]) (st' := []) (h' := h) rfl ?_ ?_
    · refine mX_to 1 (k' := 31) (ls' := [some (.ref 60), some (.ref 43), some (.int l2), some (.int l3), some (.int l4)]) (st' := [.int l3]) (h' := h) rfl ?_
      refine mX_br (t := 36) (f := 32) (ls' := [some (.ref 60), some (.ref 43), some (.int l2), some (.int l3), some (.int l4)]) (st' := []) (h' := h) rfl ?_ ?_
      · rfl
      · refine mX_to 1 (k' := 33) (ls' := [some (.ref 60), some (.ref 43), some (.int l2), some (.int l3), some (.int l4)]) (st' := [.ref 60]) (h' := h) rfl ?_
        refine mX_ckv (v := .int (gI h 60 3)) (v' := .int (gI h 60 3)) (k' := 34) (ls' := [some (.ref 60), some (.ref 43), some (.int l2), some (.int l3), some (.int l4)]) (st' := []) (h' := h) (k_60 L) rfl rfl ?_
        refine mX_to 1 (k' := 35) (ls' := [some (.ref 60), some (.ref 43), some (.int l2), some (.int l3), some (.int l4)]) (st' := [.int (-1), .int (gI h 60 3)]) (h' := h) rfl ?_
        refine mX_br (t := 36) (f := 46) (ls' := [some (.ref 60), some (.ref 43), some (.int l2), some (.int l3), some (.int l4)]) (st' := []) (h' := h) rfl ?_ ?_
        · rfl
        · exact mX_ret rfl
    · exact mX_ret rfl
  · exact mX_ret rfl
theorem S_X5_explore_36 {h : MH} (L : lay h) (d : Nat) (l2 : Int32) (l3 : Int32) (l4 : Int32) : G_X5_explore_36 d l2 l3 l4 h = ck (ib l4 6561) (cV (F_X5_expand d (gI h 62 (ix l4)) l2 h) (fun h10 => G_X5_explore_23 d l2 l3 (l4 + 1) h10)) := by
  refine mX_to 3 (k' := 39) (ls' := [some (.ref 60), some (.ref 43), some (.int l2), some (.int l3), some (.int l4)]) (st' := [.ref 60, .ref 43, .ref 60]) (h' := h) rfl ?_
  refine mX_ckv (v := .ref (gR h 60 1)) (v' := .ref 62) (k' := 40) (ls' := [some (.ref 60), some (.ref 43), some (.int l2), some (.int l3), some (.int l4)]) (st' := [.ref 43, .ref 60]) (h' := h) (k_60 L) (congrArg Value.ref (r_60_1 L)) rfl ?_
  refine mX_to 1 (k' := 41) (ls' := [some (.ref 60), some (.ref 43), some (.int l2), some (.int l3), some (.int l4)]) (st' := [.int l4, .ref 62, .ref 43, .ref 60]) (h' := h) rfl ?_
  refine mX_ckw (v := .int (gI h 62 (ix l4))) (v' := .int (gI h 62 (ix l4))) (k' := 42) (ls' := [some (.ref 60), some (.ref 43), some (.int l2), some (.int l3), some (.int l4)]) (st' := [.ref 43, .ref 60]) (h' := h) (ckA1 (k_62 L) (n_62 L)) rfl rfl fun c11 => ?_
  refine mX_to 1 (k' := 43) (ls' := [some (.ref 60), some (.ref 43), some (.int l2), some (.int l3), some (.int l4)]) (st' := [.int l2, .int (gI h 62 (ix l4)), .ref 43, .ref 60]) (h' := h) rfl ?_
  refine mX_ckct (m := mcl (mE mtab d 238 [.ref 60, .ref 43, .int (gI h 62 (ix l4)), .int l2] h) 0 44 [some (.ref 60), some (.ref 43), some (.int l2), some (.int l3), some (.int l4)] []) (k_60 L) rfl ?_
  refine mk_cVe (o := F_X5_expand d (gI h 62 (ix l4)) l2 h) ?_
  intro wh10 h10 eh10
  have L10 : lay h10 := lay_call d 238 [.ref 60, .ref 43, .int (gI h 62 (ix l4)), .int l2] h _ h10 rfl eh10 L
  refine mX_to 2 (k' := 23) (ls' := [some (.ref 60), some (.ref 43), some (.int l2), some (.int l3), some (.int (l4 + 1))]) (st' := []) (h' := h10) rfl ?_
  rfl
theorem S_X5_explore {h : MH} (L : lay h) (d : Nat) (a2 : Int32) (a3 : Int32) : F_X5_explore (d + 1) a2 a3 h = ck (ib (gI h 43 0) 5) (cV (mE mtab d 231 [.ref 61, .int 0, .int (gI h 2 (ix (gI h 43 0))), .int (-1)] h) (fun h1 => lt_ (sI h1 60 2 0) fun h3 => lt_ (sI h3 60 3 (-1)) fun h5 => cI (F_X9_standing d 43 h5) (fun x7 h6 => cV (F_X5_come d x7 (-3) h6) (fun h8 => G_X5_explore_23 d a2 a3 0 h8)))) := by
  refine mE_eq (q := (yX5_explore, cX5_explore, 5, none, KX5_explore)) (C := KX5_explore) (ls := [some (.ref 60), some (.ref 43), some (.int a2), some (.int a3), none]) rfl rfl rfl rfl ?_
  refine mX_to 1 (k' := 1) (ls' := [some (.ref 60), some (.ref 43), some (.int a2), some (.int a3), none]) (st' := [.ref 60]) (h' := h) rfl ?_
  refine mX_ckv (v := .ref (gR h 60 0)) (v' := .ref 61) (k' := 2) (ls' := [some (.ref 60), some (.ref 43), some (.int a2), some (.int a3), none]) (st' := []) (h' := h) (k_60 L) (congrArg Value.ref (r_60_0 L)) rfl ?_
  refine mX_to 3 (k' := 5) (ls' := [some (.ref 60), some (.ref 43), some (.int a2), some (.int a3), none]) (st' := [.ref 43, .ref 2, .int 0, .ref 61]) (h' := h) rfl ?_
  refine mX_ckv (v := .int (gI h 43 0)) (v' := .int (gI h 43 0)) (k' := 6) (ls' := [some (.ref 60), some (.ref 43), some (.int a2), some (.int a3), none]) (st' := [.ref 2, .int 0, .ref 61]) (h' := h) (k_43 L) rfl rfl ?_
  refine mX_ckw (v := .int (gI h 2 (ix (gI h 43 0)))) (v' := .int (gI h 2 (ix (gI h 43 0)))) (k' := 7) (ls' := [some (.ref 60), some (.ref 43), some (.int a2), some (.int a3), none]) (st' := [.int 0, .ref 61]) (h' := h) (ckA2 (k_2 L) (n_2 L)) rfl rfl fun c9 => ?_
  refine mX_to 1 (k' := 8) (ls' := [some (.ref 60), some (.ref 43), some (.int a2), some (.int a3), none]) (st' := [.int (-1), .int (gI h 2 (ix (gI h 43 0))), .int 0, .ref 61]) (h' := h) rfl ?_
  refine mX_cVe (o := mE mtab d 231 [.ref 61, .int 0, .int (gI h 2 (ix (gI h 43 0))), .int (-1)] h) (k' := 9) (ls' := [some (.ref 60), some (.ref 43), some (.int a2), some (.int a3), none]) (st' := []) rfl ?_
  intro wh1 h1 eh1
  have L1 : lay h1 := lay_call d 231 [.ref 61, .int 0, .int (gI h 2 (ix (gI h 43 0))), .int (-1)] h _ h1 rfl eh1 L
  refine mX_to 2 (k' := 11) (ls' := [some (.ref 60), some (.ref 43), some (.int a2), some (.int a3), none]) (st' := [.int 0, .ref 60]) (h' := h1) rfl ?_
  refine mX_ckt (k' := 12) (ls' := [some (.ref 60), some (.ref 43), some (.int a2), some (.int a3), none]) (st' := []) (h' := (sI h1 60 2 0)) (k_60 L1) rfl ?_
  refine lt_geq2 (X := fun h3 : MH => mX (mE mtab d) KX5_explore 12 [some (.ref 60), some (.ref 43), some (.int a2), some (.int a3), none] [] h3) (a := (sI h1 60 2 0)) (a' := (sI h1 60 2 0)) rfl fun h3 eh3 => ?_
  have L3 : lay h3 := eh3 ▸ layI L1 (by decide)
  refine mX_to 2 (k' := 14) (ls' := [some (.ref 60), some (.ref 43), some (.int a2), some (.int a3), none]) (st' := [.int (-1), .ref 60]) (h' := h3) rfl ?_
  refine mX_ckt (k' := 15) (ls' := [some (.ref 60), some (.ref 43), some (.int a2), some (.int a3), none]) (st' := []) (h' := (sI h3 60 3 (-1))) (k_60 L3) rfl ?_
  refine lt_geq2 (X := fun h5 : MH => mX (mE mtab d) KX5_explore 15 [some (.ref 60), some (.ref 43), some (.int a2), some (.int a3), none] [] h5) (a := (sI h3 60 3 (-1))) (a' := (sI h3 60 3 (-1))) rfl fun h5 eh5 => ?_
  have L5 : lay h5 := eh5 ▸ layI L3 (by decide)
  refine mX_to 3 (k' := 18) (ls' := [some (.ref 60), some (.ref 43), some (.int a2), some (.int a3), none]) (st' := [.ref 43, .ref 43, .ref 60]) (h' := h5) rfl ?_
  refine mX_ckct (m := mcl (mE mtab d 232 [.ref 43] h5) 1 19 [some (.ref 60), some (.ref 43), some (.int a2), some (.int a3), none] [.ref 43, .ref 60]) (k_43 L5) rfl ?_
  refine mk_cIe (o := F_X9_standing d 43 h5) ?_
  intro x7 h6 eh6
  have L6 : lay h6 := lay_call d 232 [.ref 43] h5 _ h6 rfl eh6 L5
  refine mX_to 1 (k' := 20) (ls' := [some (.ref 60), some (.ref 43), some (.int a2), some (.int a3), none]) (st' := [.int (-3), .int x7, .ref 43, .ref 60]) (h' := h6) rfl ?_
  refine mX_ckct (m := mcl (mE mtab d 234 [.ref 60, .ref 43, .int x7, .int (-3)] h6) 0 21 [some (.ref 60), some (.ref 43), some (.int a2), some (.int a3), none] []) (k_60 L6) rfl ?_
  refine mk_cVe (o := F_X5_come d x7 (-3) h6) ?_
  intro wh8 h8 eh8
  have L8 : lay h8 := lay_call d 234 [.ref 60, .ref 43, .int x7, .int (-3)] h6 _ h8 rfl eh8 L6
  refine mX_to 2 (k' := 23) (ls' := [some (.ref 60), some (.ref 43), some (.int a2), some (.int a3), some (.int 0)]) (st' := []) (h' := h8) rfl ?_
  rfl
theorem S_X5_goingsToGoals_13 {h : MH} (L : lay h) (d : Nat) (l1 : Int32) (l2 : Int32) (l3 : Int32) : G_X5_goingsToGoals_13 d l1 l2 l3 h = (if l3 < 6561 then ck (ib l2 6561) ((if (gI h 61 (ix l2)) = (-3) then some (.int l1, h) else ck (ib l2 6561) (lt_ ((gI h 61 (ix l2)) / 64) fun v1 => G_X5_goingsToGoals_13 d (l1 + 1) v1 (l3 + 1) h))) else some (.int l1, h)) := by
  refine mX_to 2 (k' := 15) (ls' := [some (.ref 60), some (.int l1), some (.int l2), some (.int l3)]) (st' := [.int 6561, .int l3]) (h' := h) rfl ?_
  refine mX_br (t := 16) (f := 32) (ls' := [some (.ref 60), some (.int l1), some (.int l2), some (.int l3)]) (st' := []) (h' := h) rfl ?_ ?_
  · refine mX_to 1 (k' := 17) (ls' := [some (.ref 60), some (.int l1), some (.int l2), some (.int l3)]) (st' := [.ref 60]) (h' := h) rfl ?_
    refine mX_ckv (v := .ref (gR h 60 0)) (v' := .ref 61) (k' := 18) (ls' := [some (.ref 60), some (.int l1), some (.int l2), some (.int l3)]) (st' := []) (h' := h) (k_60 L) (congrArg Value.ref (r_60_0 L)) rfl ?_
    refine mX_to 1 (k' := 19) (ls' := [some (.ref 60), some (.int l1), some (.int l2), some (.int l3)]) (st' := [.int l2, .ref 61]) (h' := h) rfl ?_
    refine mX_ckw (v := .int (gI h 61 (ix l2))) (v' := .int (gI h 61 (ix l2))) (k' := 20) (ls' := [some (.ref 60), some (.int l1), some (.int l2), some (.int l3)]) (st' := []) (h' := h) (ckA1 (k_61 L) (n_61 L)) rfl rfl fun c3 => ?_
    refine mX_to 1 (k' := 21) (ls' := [some (.ref 60), some (.int l1), some (.int l2), some (.int l3)]) (st' := [.int (-3), .int (gI h 61 (ix l2))]) (h' := h) rfl ?_
    refine mX_br (t := 32) (f := 22) (ls' := [some (.ref 60), some (.int l1), some (.int l2), some (.int l3)]) (st' := []) (h' := h) rfl ?_ ?_
    · refine mX_to 1 (k' := 33) (ls' := [some (.ref 60), some (.int l1), some (.int l2), some (.int l3)]) (st' := [.int l1]) (h' := h) rfl ?_
      exact mX_reti rfl
    · refine mX_to 1 (k' := 23) (ls' := [some (.ref 60), some (.int l1), some (.int l2), some (.int l3)]) (st' := [.ref 60]) (h' := h) rfl ?_
      refine mX_ckv (v := .ref (gR h 60 0)) (v' := .ref 61) (k' := 24) (ls' := [some (.ref 60), some (.int l1), some (.int l2), some (.int l3)]) (st' := []) (h' := h) (k_60 L) (congrArg Value.ref (r_60_0 L)) rfl ?_
      refine mX_to 1 (k' := 25) (ls' := [some (.ref 60), some (.int l1), some (.int l2), some (.int l3)]) (st' := [.int l2, .ref 61]) (h' := h) rfl ?_
      refine mX_ckw (v := .int (gI h 61 (ix l2))) (v' := .int (gI h 61 (ix l2))) (k' := 26) (ls' := [some (.ref 60), some (.int l1), some (.int l2), some (.int l3)]) (st' := []) (h' := h) (ckA1 (k_61 L) (n_61 L)) rfl rfl fun c2 => ?_
      refine mX_to 1 (k' := 27) (ls' := [some (.ref 60), some (.int l1), some (.int l2), some (.int l3)]) (st' := [.int 64, .int (gI h 61 (ix l2))]) (h' := h) rfl ?_
      refine mX_ckt (c := ¬ (64 : Int32) = 0) (k' := 28) (ls' := [some (.ref 60), some (.int l1), some (.int l2), some (.int l3)]) (st' := [.int ((gI h 61 (ix l2)) / 64)]) (h' := h) (by decide) rfl ?_
      refine lt_gen (X := fun v1 : Int32 => mX (mE mtab d) KX5_goingsToGoals 28 [some (.ref 60), some (.int l1), some (.int l2), some (.int l3)] [.int v1] h) fun v1 => ?_
      refine mX_to 4 (k' := 13) (ls' := [some (.ref 60), some (.int (l1 + 1)), some (.int v1), some (.int (l3 + 1))]) (st' := []) (h' := h) rfl ?_
      rfl
  · refine mX_to 1 (k' := 33) (ls' := [some (.ref 60), some (.int l1), some (.int l2), some (.int l3)]) (st' := [.int l1]) (h' := h) rfl ?_
    exact mX_reti rfl
theorem S_X5_goingsToGoals {h : MH} (L : lay h) (d : Nat) : F_X5_goingsToGoals (d + 1) h = (if (gI h 60 3) = (-1) then some (.int (-2), h) else G_X5_goingsToGoals_13 d 0 (gI h 60 3) 0 h) := by
  refine mE_eq (q := (yX5_goingsToGoals, cX5_goingsToGoals, 4, (some .int), KX5_goingsToGoals)) (C := KX5_goingsToGoals) (ls := [some (.ref 60), none, none, none]) rfl rfl rfl rfl ?_
  refine mX_to 1 (k' := 1) (ls' := [some (.ref 60), none, none, none]) (st' := [.ref 60]) (h' := h) rfl ?_
  refine mX_ckv (v := .int (gI h 60 3)) (v' := .int (gI h 60 3)) (k' := 2) (ls' := [some (.ref 60), none, none, none]) (st' := []) (h' := h) (k_60 L) rfl rfl ?_
  refine mX_to 1 (k' := 3) (ls' := [some (.ref 60), none, none, none]) (st' := [.int (-1), .int (gI h 60 3)]) (h' := h) rfl ?_
  refine mX_br (t := 4) (f := 6) (ls' := [some (.ref 60), none, none, none]) (st' := []) (h' := h) rfl ?_ ?_
  · refine mX_to 1 (k' := 5) (ls' := [some (.ref 60), none, none, none]) (st' := [.int (-2)]) (h' := h) rfl ?_
    exact mX_reti rfl
  · refine mX_to 3 (k' := 9) (ls' := [some (.ref 60), some (.int 0), none, none]) (st' := [.ref 60]) (h' := h) rfl ?_
    refine mX_ckv (v := .int (gI h 60 3)) (v' := .int (gI h 60 3)) (k' := 10) (ls' := [some (.ref 60), some (.int 0), none, none]) (st' := []) (h' := h) (k_60 L) rfl rfl ?_
    refine mX_to 3 (k' := 13) (ls' := [some (.ref 60), some (.int 0), some (.int (gI h 60 3)), some (.int 0)]) (st' := []) (h' := h) rfl ?_
    rfl
