--deps:19.lay 21.facts 22.00.names
/-! EQUATIONS over the fixed cells (written by wip/gen/sgen.py) -/
theorem S_X11_drawnBy {h : MH} (L : lay h) (d : Nat) (a1 : Int32) : F_X11_drawnBy (d + 1) a1 h = ck (¬ a1 = 0) (lt_ ((gI h 68 7) - (gI h 68 7) / a1 * a1) fun v1 => cV (F_X11_anew d h) (fun h2 => some (.int v1, h2))) := by
  refine mE_eq (q := (yX11_drawnBy, cX11_drawnBy, 3, (some .int), KX11_drawnBy)) (C := KX11_drawnBy) (ls := [some (.ref 67), some (.int a1), none]) rfl rfl rfl rfl ?_
  refine mX_to 1 (k' := 1) (ls' := [some (.ref 67), some (.int a1), none]) (st' := [.ref 67]) (h' := h) rfl ?_
  refine mX_ckv (v := .ref (gR h 67 0)) (v' := .ref 68) (k' := 2) (ls' := [some (.ref 67), some (.int a1), none]) (st' := []) (h' := h) (k_67 L) (congrArg Value.ref (r_67_0 L)) rfl ?_
  refine mX_to 1 (k' := 3) (ls' := [some (.ref 67), some (.int a1), none]) (st' := [.int 7, .ref 68]) (h' := h) rfl ?_
  refine mX_ckv (v := .int (gI h 68 (ix (7 : Int32)))) (v' := .int (gI h 68 7)) (k' := 4) (ls' := [some (.ref 67), some (.int a1), none]) (st' := []) (h' := h) ((ckA1 (k_68 L) (n_68 L)).mpr (ib_lit (n := 7) rfl (by decide) (by decide))) (congrArg (fun j => Value.int (gI h 68 j)) (ix_lit (n := 7) rfl (by decide))) rfl ?_
  refine mX_to 1 (k' := 5) (ls' := [some (.ref 67), some (.int a1), none]) (st' := [.int a1, .int (gI h 68 7)]) (h' := h) rfl ?_
  refine mX_ck (k' := 6) (ls' := [some (.ref 67), some (.int a1), none]) (st' := [.int ((gI h 68 7) - (gI h 68 7) / a1 * a1)]) (h' := h) rfl ?_
  refine lt_gen (X := fun v1 : Int32 => mX (mE mtab d) KX11_drawnBy 6 [some (.ref 67), some (.int a1), none] [.int v1] h) fun v1 => ?_
  refine mX_to 2 (k' := 8) (ls' := [some (.ref 67), some (.int a1), some (.int v1)]) (st' := [.ref 67]) (h' := h) rfl ?_
  refine mX_ckct (m := mcl (mE mtab d 194 [.ref 67] h) 0 9 [some (.ref 67), some (.int a1), some (.int v1)] []) (k_67 L) rfl ?_
  refine mk_cVe (o := F_X11_anew d h) ?_
  intro wh2 h2 eh2
  have L2 : lay h2 := lay_call d 194 [.ref 67] h _ h2 rfl eh2 L
  refine mX_to 1 (k' := 10) (ls' := [some (.ref 67), some (.int a1), some (.int v1)]) (st' := [.int v1]) (h' := h2) rfl ?_
  exact mX_reti rfl
theorem S_X11_slidesOf {h : MH} (L : lay h) (d : Nat) (a1 : Int32) (a2 : Int32) : F_X11_slidesOf (d + 1) a1 a2 h = cV (F_X11_name d h) (fun h1 => lt_ (sI h1 73 4 a2) fun h3 => ck (ib (22 + a2) 1498) (lt_ (sI h3 73 5 (gI h3 68 (ix (22 + a2)))) fun h5 => ck (ib (9 + a2) 1498) (lt_ (sI h5 73 6 (gI h5 68 (ix (9 + a2)))) fun h7 => cI (F_X11_says d a1 1 1 3 h7) (fun x9 h8 => some (.int x9, h8))))) := by
  refine mE_eq (q := (yX11_slidesOf, cX11_slidesOf, 3, (some .int), KX11_slidesOf)) (C := KX11_slidesOf) (ls := [some (.ref 67), some (.int a1), some (.int a2)]) rfl rfl rfl rfl ?_
  refine mX_to 1 (k' := 1) (ls' := [some (.ref 67), some (.int a1), some (.int a2)]) (st' := [.ref 67]) (h' := h) rfl ?_
  refine mX_ckct (m := mcl (mE mtab d 160 [.ref 67] h) 0 2 [some (.ref 67), some (.int a1), some (.int a2)] []) (k_67 L) rfl ?_
  refine mk_cVe (o := F_X11_name d h) ?_
  intro wh1 h1 eh1
  have L1 : lay h1 := lay_call d 160 [.ref 67] h _ h1 rfl eh1 L
  refine mX_to 1 (k' := 3) (ls' := [some (.ref 67), some (.int a1), some (.int a2)]) (st' := [.ref 67]) (h' := h1) rfl ?_
  refine mX_ckv (v := .ref (gR h1 67 20)) (v' := .ref 73) (k' := 4) (ls' := [some (.ref 67), some (.int a1), some (.int a2)]) (st' := []) (h' := h1) (k_67 L1) (congrArg Value.ref (r_67_20 L1)) rfl ?_
  refine mX_to 2 (k' := 6) (ls' := [some (.ref 67), some (.int a1), some (.int a2)]) (st' := [.int a2, .int 4, .ref 73]) (h' := h1) rfl ?_
  refine mX_ckt (k' := 7) (ls' := [some (.ref 67), some (.int a1), some (.int a2)]) (st' := []) (h' := (sI h1 73 (ix (4 : Int32)) a2)) ((ckA0 (k_73 L1) (n_73 L1)).mpr (ib_lit (n := 4) rfl (by decide) (by decide))) rfl ?_
  refine lt_geq2 (X := fun h3 : MH => mX (mE mtab d) KX11_slidesOf 7 [some (.ref 67), some (.int a1), some (.int a2)] [] h3) (a := (sI h1 73 (ix (4 : Int32)) a2)) (a' := (sI h1 73 4 a2)) (congrArg (fun j => sI h1 73 j a2) (ix_lit (n := 4) rfl (by decide))) fun h3 eh3 => ?_
  have L3 : lay h3 := eh3 ▸ layI L1 (by decide)
  refine mX_to 1 (k' := 8) (ls' := [some (.ref 67), some (.int a1), some (.int a2)]) (st' := [.ref 67]) (h' := h3) rfl ?_
  refine mX_ckv (v := .ref (gR h3 67 20)) (v' := .ref 73) (k' := 9) (ls' := [some (.ref 67), some (.int a1), some (.int a2)]) (st' := []) (h' := h3) (k_67 L3) (congrArg Value.ref (r_67_20 L3)) rfl ?_
  refine mX_to 2 (k' := 11) (ls' := [some (.ref 67), some (.int a1), some (.int a2)]) (st' := [.ref 67, .int 5, .ref 73]) (h' := h3) rfl ?_
  refine mX_ckv (v := .ref (gR h3 67 0)) (v' := .ref 68) (k' := 12) (ls' := [some (.ref 67), some (.int a1), some (.int a2)]) (st' := [.int 5, .ref 73]) (h' := h3) (k_67 L3) (congrArg Value.ref (r_67_0 L3)) rfl ?_
  refine mX_to 3 (k' := 15) (ls' := [some (.ref 67), some (.int a1), some (.int a2)]) (st' := [.int (22 + a2), .ref 68, .int 5, .ref 73]) (h' := h3) rfl ?_
  refine mX_ckw (v := .int (gI h3 68 (ix (22 + a2)))) (v' := .int (gI h3 68 (ix (22 + a2)))) (k' := 16) (ls' := [some (.ref 67), some (.int a1), some (.int a2)]) (st' := [.int 5, .ref 73]) (h' := h3) (ckA1 (k_68 L3) (n_68 L3)) rfl rfl fun c11 => ?_
  refine mX_ckt (k' := 17) (ls' := [some (.ref 67), some (.int a1), some (.int a2)]) (st' := []) (h' := (sI h3 73 (ix (5 : Int32)) (gI h3 68 (ix (22 + a2))))) ((ckA0 (k_73 L3) (n_73 L3)).mpr (ib_lit (n := 5) rfl (by decide) (by decide))) rfl ?_
  refine lt_geq2 (X := fun h5 : MH => mX (mE mtab d) KX11_slidesOf 17 [some (.ref 67), some (.int a1), some (.int a2)] [] h5) (a := (sI h3 73 (ix (5 : Int32)) (gI h3 68 (ix (22 + a2))))) (a' := (sI h3 73 5 (gI h3 68 (ix (22 + a2))))) (congrArg (fun j => sI h3 73 j (gI h3 68 (ix (22 + a2)))) (ix_lit (n := 5) rfl (by decide))) fun h5 eh5 => ?_
  have L5 : lay h5 := eh5 ▸ layI L3 (by decide)
  refine mX_to 1 (k' := 18) (ls' := [some (.ref 67), some (.int a1), some (.int a2)]) (st' := [.ref 67]) (h' := h5) rfl ?_
  refine mX_ckv (v := .ref (gR h5 67 20)) (v' := .ref 73) (k' := 19) (ls' := [some (.ref 67), some (.int a1), some (.int a2)]) (st' := []) (h' := h5) (k_67 L5) (congrArg Value.ref (r_67_20 L5)) rfl ?_
  refine mX_to 2 (k' := 21) (ls' := [some (.ref 67), some (.int a1), some (.int a2)]) (st' := [.ref 67, .int 6, .ref 73]) (h' := h5) rfl ?_
  refine mX_ckv (v := .ref (gR h5 67 0)) (v' := .ref 68) (k' := 22) (ls' := [some (.ref 67), some (.int a1), some (.int a2)]) (st' := [.int 6, .ref 73]) (h' := h5) (k_67 L5) (congrArg Value.ref (r_67_0 L5)) rfl ?_
  refine mX_to 3 (k' := 25) (ls' := [some (.ref 67), some (.int a1), some (.int a2)]) (st' := [.int (9 + a2), .ref 68, .int 6, .ref 73]) (h' := h5) rfl ?_
  refine mX_ckw (v := .int (gI h5 68 (ix (9 + a2)))) (v' := .int (gI h5 68 (ix (9 + a2)))) (k' := 26) (ls' := [some (.ref 67), some (.int a1), some (.int a2)]) (st' := [.int 6, .ref 73]) (h' := h5) (ckA1 (k_68 L5) (n_68 L5)) rfl rfl fun c10 => ?_
  refine mX_ckt (k' := 27) (ls' := [some (.ref 67), some (.int a1), some (.int a2)]) (st' := []) (h' := (sI h5 73 (ix (6 : Int32)) (gI h5 68 (ix (9 + a2))))) ((ckA0 (k_73 L5) (n_73 L5)).mpr (ib_lit (n := 6) rfl (by decide) (by decide))) rfl ?_
  refine lt_geq2 (X := fun h7 : MH => mX (mE mtab d) KX11_slidesOf 27 [some (.ref 67), some (.int a1), some (.int a2)] [] h7) (a := (sI h5 73 (ix (6 : Int32)) (gI h5 68 (ix (9 + a2))))) (a' := (sI h5 73 6 (gI h5 68 (ix (9 + a2))))) (congrArg (fun j => sI h5 73 j (gI h5 68 (ix (9 + a2)))) (ix_lit (n := 6) rfl (by decide))) fun h7 eh7 => ?_
  have L7 : lay h7 := eh7 ▸ layI L5 (by decide)
  refine mX_to 5 (k' := 32) (ls' := [some (.ref 67), some (.int a1), some (.int a2)]) (st' := [.int 3, .int 1, .int 1, .int a1, .ref 67]) (h' := h7) rfl ?_
  refine mX_ckct (m := mcl (mE mtab d 171 [.ref 67, .int a1, .int 1, .int 1, .int 3] h7) 1 33 [some (.ref 67), some (.int a1), some (.int a2)] []) (k_67 L7) rfl ?_
  refine mk_cIe (o := F_X11_says d a1 1 1 3 h7) ?_
  intro x9 h8 eh8
  have L8 : lay h8 := lay_call d 171 [.ref 67, .int a1, .int 1, .int 1, .int 3] h7 _ h8 rfl eh8 L7
  exact mX_reti rfl
theorem S_X11_write_12 {h : MH} (L : lay h) (d : Nat) (l1 : Int32) (l2 : Int32) (l3 : Int32) : G_X11_write_12 d l1 l2 l3 h = (if l3 < 30 then ck (ib (1468 + l3) 1498) (ck (ib ((1468 + l3) - 1) 1498) (lt_ (sI h 68 (ix ((1468 + l3) - 1)) (gI h 68 (ix (1468 + l3)))) fun h2 => G_X11_write_12 d l1 l2 (l3 + 1) h2)) else lt_ (sI h 68 8 ((gI h 68 8) - 1)) fun h5 => G_X11_write_39 d l1 l2 (some (.int l3)) h5) := by
  refine mX_to 2 (k' := 14) (ls' := [some (.ref 67), some (.int l1), some (.int l2), some (.int l3)]) (st' := [.int 30, .int l3]) (h' := h) rfl ?_
  refine mX_br (t := 15) (f := 31) (ls' := [some (.ref 67), some (.int l1), some (.int l2), some (.int l3)]) (st' := []) (h' := h) rfl ?_ ?_
  · refine mX_to 1 (k' := 16) (ls' := [some (.ref 67), some (.int l1), some (.int l2), some (.int l3)]) (st' := [.ref 67]) (h' := h) rfl ?_
    refine mX_ckv (v := .ref (gR h 67 0)) (v' := .ref 68) (k' := 17) (ls' := [some (.ref 67), some (.int l1), some (.int l2), some (.int l3)]) (st' := []) (h' := h) (k_67 L) (congrArg Value.ref (r_67_0 L)) rfl ?_
    refine mX_to 6 (k' := 23) (ls' := [some (.ref 67), some (.int l1), some (.int l2), some (.int l3)]) (st' := [.ref 67, .int ((1468 + l3) - 1), .ref 68]) (h' := h) rfl ?_
    refine mX_ckv (v := .ref (gR h 67 0)) (v' := .ref 68) (k' := 24) (ls' := [some (.ref 67), some (.int l1), some (.int l2), some (.int l3)]) (st' := [.int ((1468 + l3) - 1), .ref 68]) (h' := h) (k_67 L) (congrArg Value.ref (r_67_0 L)) rfl ?_
    refine mX_to 3 (k' := 27) (ls' := [some (.ref 67), some (.int l1), some (.int l2), some (.int l3)]) (st' := [.int (1468 + l3), .ref 68, .int ((1468 + l3) - 1), .ref 68]) (h' := h) rfl ?_
    refine mX_ckw (v := .int (gI h 68 (ix (1468 + l3)))) (v' := .int (gI h 68 (ix (1468 + l3)))) (k' := 28) (ls' := [some (.ref 67), some (.int l1), some (.int l2), some (.int l3)]) (st' := [.int ((1468 + l3) - 1), .ref 68]) (h' := h) (ckA1 (k_68 L) (n_68 L)) rfl rfl fun c3 => ?_
    refine mX_cki (k' := 29) (ls' := [some (.ref 67), some (.int l1), some (.int l2), some (.int l3)]) (st' := []) (h' := (sI h 68 (ix ((1468 + l3) - 1)) (gI h 68 (ix (1468 + l3))))) (ckA0 (k_68 L) (n_68 L)) rfl fun c1 => ?_
    refine lt_geq2 (X := fun h2 : MH => mX (mE mtab d) KX11_write 29 [some (.ref 67), some (.int l1), some (.int l2), some (.int l3)] [] h2) (a := (sI h 68 (ix ((1468 + l3) - 1)) (gI h 68 (ix (1468 + l3))))) (a' := (sI h 68 (ix ((1468 + l3) - 1)) (gI h 68 (ix (1468 + l3))))) rfl fun h2 eh2 => ?_
    have L2 : lay h2 := eh2 ▸ layI L (by decide)
    refine mX_to 2 (k' := 12) (ls' := [some (.ref 67), some (.int l1), some (.int l2), some (.int (l3 + 1))]) (st' := []) (h' := h2) rfl ?_
    rfl
  · refine mX_to 1 (k' := 32) (ls' := [some (.ref 67), some (.int l1), some (.int l2), some (.int l3)]) (st' := [.ref 67]) (h' := h) rfl ?_
    refine mX_ckv (v := .ref (gR h 67 0)) (v' := .ref 68) (k' := 33) (ls' := [some (.ref 67), some (.int l1), some (.int l2), some (.int l3)]) (st' := []) (h' := h) (k_67 L) (congrArg Value.ref (r_67_0 L)) rfl ?_
    refine mX_to 2 (k' := 35) (ls' := [some (.ref 67), some (.int l1), some (.int l2), some (.int l3)]) (st' := [.int 8, .ref 68, .int 8, .ref 68]) (h' := h) rfl ?_
    refine mX_ckv (v := .int (gI h 68 (ix (8 : Int32)))) (v' := .int (gI h 68 8)) (k' := 36) (ls' := [some (.ref 67), some (.int l1), some (.int l2), some (.int l3)]) (st' := [.int 8, .ref 68]) (h' := h) ((ckA1 (k_68 L) (n_68 L)).mpr (ib_lit (n := 8) rfl (by decide) (by decide))) (congrArg (fun j => Value.int (gI h 68 j)) (ix_lit (n := 8) rfl (by decide))) rfl ?_
    refine mX_to 2 (k' := 38) (ls' := [some (.ref 67), some (.int l1), some (.int l2), some (.int l3)]) (st' := [.int ((gI h 68 8) - 1), .int 8, .ref 68]) (h' := h) rfl ?_
    refine mX_ckt (k' := 39) (ls' := [some (.ref 67), some (.int l1), some (.int l2), some (.int l3)]) (st' := []) (h' := (sI h 68 (ix (8 : Int32)) ((gI h 68 8) - 1))) ((ckA0 (k_68 L) (n_68 L)).mpr (ib_lit (n := 8) rfl (by decide) (by decide))) rfl ?_
    refine lt_geq2 (X := fun h5 : MH => mX (mE mtab d) KX11_write 39 [some (.ref 67), some (.int l1), some (.int l2), some (.int l3)] [] h5) (a := (sI h 68 (ix (8 : Int32)) ((gI h 68 8) - 1))) (a' := (sI h 68 8 ((gI h 68 8) - 1))) (congrArg (fun j => sI h 68 j ((gI h 68 8) - 1)) (ix_lit (n := 8) rfl (by decide))) fun h5 eh5 => ?_
    have L5 : lay h5 := eh5 ▸ layI L (by decide)
    rfl
theorem S_X11_write_39 {h : MH} (L : lay h) (d : Nat) (l1 : Int32) (l2 : Int32) (o3 : Option Value) : G_X11_write_39 d l1 l2 o3 h = ck (ib (9 + l1) 1498) (ck (ib (1468 + (gI h 68 8)) 1498) (lt_ (sI h 68 (ix (1468 + (gI h 68 8))) (((((((gI h 68 6) * 4) + l1) * 9) + l2) * 9) + (gI h 68 (ix (9 + l1))))) fun h7 => lt_ (sI h7 68 8 ((gI h7 68 8) + 1)) fun h9 => some (.int 0, h9))) := by
  refine mX_to 1 (k' := 40) (ls' := [some (.ref 67), some (.int l1), some (.int l2), o3]) (st' := [.ref 67]) (h' := h) rfl ?_
  refine mX_ckv (v := .ref (gR h 67 0)) (v' := .ref 68) (k' := 41) (ls' := [some (.ref 67), some (.int l1), some (.int l2), o3]) (st' := []) (h' := h) (k_67 L) (congrArg Value.ref (r_67_0 L)) rfl ?_
  refine mX_to 2 (k' := 43) (ls' := [some (.ref 67), some (.int l1), some (.int l2), o3]) (st' := [.ref 67, .int 1468, .ref 68]) (h' := h) rfl ?_
  refine mX_ckv (v := .ref (gR h 67 0)) (v' := .ref 68) (k' := 44) (ls' := [some (.ref 67), some (.int l1), some (.int l2), o3]) (st' := [.int 1468, .ref 68]) (h' := h) (k_67 L) (congrArg Value.ref (r_67_0 L)) rfl ?_
  refine mX_to 1 (k' := 45) (ls' := [some (.ref 67), some (.int l1), some (.int l2), o3]) (st' := [.int 8, .ref 68, .int 1468, .ref 68]) (h' := h) rfl ?_
  refine mX_ckv (v := .int (gI h 68 (ix (8 : Int32)))) (v' := .int (gI h 68 8)) (k' := 46) (ls' := [some (.ref 67), some (.int l1), some (.int l2), o3]) (st' := [.int 1468, .ref 68]) (h' := h) ((ckA1 (k_68 L) (n_68 L)).mpr (ib_lit (n := 8) rfl (by decide) (by decide))) (congrArg (fun j => Value.int (gI h 68 j)) (ix_lit (n := 8) rfl (by decide))) rfl ?_
  refine mX_to 2 (k' := 48) (ls' := [some (.ref 67), some (.int l1), some (.int l2), o3]) (st' := [.ref 67, .int (1468 + (gI h 68 8)), .ref 68]) (h' := h) rfl ?_
  refine mX_ckv (v := .ref (gR h 67 0)) (v' := .ref 68) (k' := 49) (ls' := [some (.ref 67), some (.int l1), some (.int l2), o3]) (st' := [.int (1468 + (gI h 68 8)), .ref 68]) (h' := h) (k_67 L) (congrArg Value.ref (r_67_0 L)) rfl ?_
  refine mX_to 1 (k' := 50) (ls' := [some (.ref 67), some (.int l1), some (.int l2), o3]) (st' := [.int 6, .ref 68, .int (1468 + (gI h 68 8)), .ref 68]) (h' := h) rfl ?_
  refine mX_ckv (v := .int (gI h 68 (ix (6 : Int32)))) (v' := .int (gI h 68 6)) (k' := 51) (ls' := [some (.ref 67), some (.int l1), some (.int l2), o3]) (st' := [.int (1468 + (gI h 68 8)), .ref 68]) (h' := h) ((ckA1 (k_68 L) (n_68 L)).mpr (ib_lit (n := 6) rfl (by decide) (by decide))) (congrArg (fun j => Value.int (gI h 68 j)) (ix_lit (n := 6) rfl (by decide))) rfl ?_
  refine mX_to 11 (k' := 62) (ls' := [some (.ref 67), some (.int l1), some (.int l2), o3]) (st' := [.ref 67, .int ((((((gI h 68 6) * 4) + l1) * 9) + l2) * 9), .int (1468 + (gI h 68 8)), .ref 68]) (h' := h) rfl ?_
  refine mX_ckv (v := .ref (gR h 67 0)) (v' := .ref 68) (k' := 63) (ls' := [some (.ref 67), some (.int l1), some (.int l2), o3]) (st' := [.int ((((((gI h 68 6) * 4) + l1) * 9) + l2) * 9), .int (1468 + (gI h 68 8)), .ref 68]) (h' := h) (k_67 L) (congrArg Value.ref (r_67_0 L)) rfl ?_
  refine mX_to 3 (k' := 66) (ls' := [some (.ref 67), some (.int l1), some (.int l2), o3]) (st' := [.int (9 + l1), .ref 68, .int ((((((gI h 68 6) * 4) + l1) * 9) + l2) * 9), .int (1468 + (gI h 68 8)), .ref 68]) (h' := h) rfl ?_
  refine mX_ckw (v := .int (gI h 68 (ix (9 + l1)))) (v' := .int (gI h 68 (ix (9 + l1)))) (k' := 67) (ls' := [some (.ref 67), some (.int l1), some (.int l2), o3]) (st' := [.int ((((((gI h 68 6) * 4) + l1) * 9) + l2) * 9), .int (1468 + (gI h 68 8)), .ref 68]) (h' := h) (ckA1 (k_68 L) (n_68 L)) rfl rfl fun c10 => ?_
  refine mX_to 1 (k' := 68) (ls' := [some (.ref 67), some (.int l1), some (.int l2), o3]) (st' := [.int (((((((gI h 68 6) * 4) + l1) * 9) + l2) * 9) + (gI h 68 (ix (9 + l1)))), .int (1468 + (gI h 68 8)), .ref 68]) (h' := h) rfl ?_
  refine mX_cki (k' := 69) (ls' := [some (.ref 67), some (.int l1), some (.int l2), o3]) (st' := []) (h' := (sI h 68 (ix (1468 + (gI h 68 8))) (((((((gI h 68 6) * 4) + l1) * 9) + l2) * 9) + (gI h 68 (ix (9 + l1)))))) (ckA0 (k_68 L) (n_68 L)) rfl fun c6 => ?_
  refine lt_geq2 (X := fun h7 : MH => mX (mE mtab d) KX11_write 69 [some (.ref 67), some (.int l1), some (.int l2), o3] [] h7) (a := (sI h 68 (ix (1468 + (gI h 68 8))) (((((((gI h 68 6) * 4) + l1) * 9) + l2) * 9) + (gI h 68 (ix (9 + l1)))))) (a' := (sI h 68 (ix (1468 + (gI h 68 8))) (((((((gI h 68 6) * 4) + l1) * 9) + l2) * 9) + (gI h 68 (ix (9 + l1)))))) rfl fun h7 eh7 => ?_
  have L7 : lay h7 := eh7 ▸ layI L (by decide)
  refine mX_to 1 (k' := 70) (ls' := [some (.ref 67), some (.int l1), some (.int l2), o3]) (st' := [.ref 67]) (h' := h7) rfl ?_
  refine mX_ckv (v := .ref (gR h7 67 0)) (v' := .ref 68) (k' := 71) (ls' := [some (.ref 67), some (.int l1), some (.int l2), o3]) (st' := []) (h' := h7) (k_67 L7) (congrArg Value.ref (r_67_0 L7)) rfl ?_
  refine mX_to 2 (k' := 73) (ls' := [some (.ref 67), some (.int l1), some (.int l2), o3]) (st' := [.int 8, .ref 68, .int 8, .ref 68]) (h' := h7) rfl ?_
  refine mX_ckv (v := .int (gI h7 68 (ix (8 : Int32)))) (v' := .int (gI h7 68 8)) (k' := 74) (ls' := [some (.ref 67), some (.int l1), some (.int l2), o3]) (st' := [.int 8, .ref 68]) (h' := h7) ((ckA1 (k_68 L7) (n_68 L7)).mpr (ib_lit (n := 8) rfl (by decide) (by decide))) (congrArg (fun j => Value.int (gI h7 68 j)) (ix_lit (n := 8) rfl (by decide))) rfl ?_
  refine mX_to 2 (k' := 76) (ls' := [some (.ref 67), some (.int l1), some (.int l2), o3]) (st' := [.int ((gI h7 68 8) + 1), .int 8, .ref 68]) (h' := h7) rfl ?_
  refine mX_ckt (k' := 77) (ls' := [some (.ref 67), some (.int l1), some (.int l2), o3]) (st' := []) (h' := (sI h7 68 (ix (8 : Int32)) ((gI h7 68 8) + 1))) ((ckA0 (k_68 L7) (n_68 L7)).mpr (ib_lit (n := 8) rfl (by decide) (by decide))) rfl ?_
  refine lt_geq2 (X := fun h9 : MH => mX (mE mtab d) KX11_write 77 [some (.ref 67), some (.int l1), some (.int l2), o3] [] h9) (a := (sI h7 68 (ix (8 : Int32)) ((gI h7 68 8) + 1))) (a' := (sI h7 68 8 ((gI h7 68 8) + 1))) (congrArg (fun j => sI h7 68 j ((gI h7 68 8) + 1)) (ix_lit (n := 8) rfl (by decide))) fun h9 eh9 => ?_
  have L9 : lay h9 := eh9 ▸ layI L7 (by decide)
  exact mX_ret rfl
theorem S_X11_write {h : MH} (L : lay h) (d : Nat) (a1 : Int32) (a2 : Int32) : F_X11_write (d + 1) a1 a2 h = (if (gI h 67 23) = 0 then some (.int 0, h) else (if (gI h 68 8) = 30 then G_X11_write_12 d a1 a2 1 h else G_X11_write_39 d a1 a2 none h)) := by
  refine mE_eq (q := (yX11_write, cX11_write, 4, none, KX11_write)) (C := KX11_write) (ls := [some (.ref 67), some (.int a1), some (.int a2), none]) rfl rfl rfl rfl ?_
  refine mX_to 1 (k' := 1) (ls' := [some (.ref 67), some (.int a1), some (.int a2), none]) (st' := [.ref 67]) (h' := h) rfl ?_
  refine mX_ckv (v := .int (gI h 67 23)) (v' := .int (gI h 67 23)) (k' := 2) (ls' := [some (.ref 67), some (.int a1), some (.int a2), none]) (st' := []) (h' := h) (k_67 L) rfl rfl ?_
  refine mX_br (t := 3) (f := 4) (ls' := [some (.ref 67), some (.int a1), some (.int a2), none]) (st' := []) (h' := h) rfl ?_ ?_
  · exact mX_ret rfl
  · refine mX_to 1 (k' := 5) (ls' := [some (.ref 67), some (.int a1), some (.int a2), none]) (st' := [.ref 67]) (h' := h) rfl ?_
    refine mX_ckv (v := .ref (gR h 67 0)) (v' := .ref 68) (k' := 6) (ls' := [some (.ref 67), some (.int a1), some (.int a2), none]) (st' := []) (h' := h) (k_67 L) (congrArg Value.ref (r_67_0 L)) rfl ?_
    refine mX_to 1 (k' := 7) (ls' := [some (.ref 67), some (.int a1), some (.int a2), none]) (st' := [.int 8, .ref 68]) (h' := h) rfl ?_
    refine mX_ckv (v := .int (gI h 68 (ix (8 : Int32)))) (v' := .int (gI h 68 8)) (k' := 8) (ls' := [some (.ref 67), some (.int a1), some (.int a2), none]) (st' := []) (h' := h) ((ckA1 (k_68 L) (n_68 L)).mpr (ib_lit (n := 8) rfl (by decide) (by decide))) (congrArg (fun j => Value.int (gI h 68 j)) (ix_lit (n := 8) rfl (by decide))) rfl ?_
    refine mX_to 1 (k' := 9) (ls' := [some (.ref 67), some (.int a1), some (.int a2), none]) (st' := [.int 30, .int (gI h 68 8)]) (h' := h) rfl ?_
    refine mX_br (t := 10) (f := 39) (ls' := [some (.ref 67), some (.int a1), some (.int a2), none]) (st' := []) (h' := h) rfl ?_ ?_
    · refine mX_to 2 (k' := 12) (ls' := [some (.ref 67), some (.int a1), some (.int a2), some (.int 1)]) (st' := []) (h' := h) rfl ?_
      rfl
    · rfl
theorem S_X11_slide {h : MH} (L : lay h) (d : Nat) (a1 : Int32) (a2 : Int32) : F_X11_slide (d + 1) a1 a2 h = ck (ib (9 + a1) 1498) (lt_ (gI h 68 (ix (9 + a1))) fun v1 => cI (F_X11_step d a2 h) (fun x3 h2 => cI (F_X11_slidesOf d (gI h2 68 3) a1 h2) (fun x5 h4 => cI (F_X11_cut d (((v1 + (x3 * x5)) : Int32).toInt64) 0 8 h4) (fun x7 h6 => ck (ib (9 + a1) 1498) (lt_ (sI h6 68 (ix (9 + a1)) x7) fun h9 => ck (ib (9 + a1) 1498) ((if (gI h9 68 (ix (9 + a1))) = v1 then some (.int 0, h9) else cV (F_X11_write d a1 v1 h9) (fun h10 => some (.int 0, h10))))))))) := by
  refine mE_eq (q := (yX11_slide, cX11_slide, 4, none, KX11_slide)) (C := KX11_slide) (ls := [some (.ref 67), some (.int a1), some (.int a2), none]) rfl rfl rfl rfl ?_
  refine mX_to 1 (k' := 1) (ls' := [some (.ref 67), some (.int a1), some (.int a2), none]) (st' := [.ref 67]) (h' := h) rfl ?_
  refine mX_ckv (v := .ref (gR h 67 0)) (v' := .ref 68) (k' := 2) (ls' := [some (.ref 67), some (.int a1), some (.int a2), none]) (st' := []) (h' := h) (k_67 L) (congrArg Value.ref (r_67_0 L)) rfl ?_
  refine mX_to 3 (k' := 5) (ls' := [some (.ref 67), some (.int a1), some (.int a2), none]) (st' := [.int (9 + a1), .ref 68]) (h' := h) rfl ?_
  refine mX_ckw (v := .int (gI h 68 (ix (9 + a1)))) (v' := .int (gI h 68 (ix (9 + a1)))) (k' := 6) (ls' := [some (.ref 67), some (.int a1), some (.int a2), none]) (st' := []) (h' := h) (ckA1 (k_68 L) (n_68 L)) rfl rfl fun c12 => ?_
  refine lt_gen (X := fun v1 : Int32 => mX (mE mtab d) KX11_slide 6 [some (.ref 67), some (.int a1), some (.int a2), none] [.int v1] h) fun v1 => ?_
  refine mX_to 2 (k' := 8) (ls' := [some (.ref 67), some (.int a1), some (.int a2), some (.int v1)]) (st' := [.ref 67]) (h' := h) rfl ?_
  refine mX_ckv (v := .ref (gR h 67 0)) (v' := .ref 68) (k' := 9) (ls' := [some (.ref 67), some (.int a1), some (.int a2), some (.int v1)]) (st' := []) (h' := h) (k_67 L) (congrArg Value.ref (r_67_0 L)) rfl ?_
  refine mX_to 5 (k' := 14) (ls' := [some (.ref 67), some (.int a1), some (.int a2), some (.int v1)]) (st' := [.int a2, .int v1, .int (9 + a1), .ref 68]) (h' := h) rfl ?_
  refine mX_cIe (o := F_X11_step d a2 h) (k' := 15) (ls' := [some (.ref 67), some (.int a1), some (.int a2), some (.int v1)]) (st' := [.int v1, .int (9 + a1), .ref 68]) rfl ?_
  intro x3 h2 eh2
  have L2 : lay h2 := lay_call d 151 [.int a2] h _ h2 rfl eh2 L
  refine mX_to 2 (k' := 17) (ls' := [some (.ref 67), some (.int a1), some (.int a2), some (.int v1)]) (st' := [.ref 67, .ref 67, .int x3, .int v1, .int (9 + a1), .ref 68]) (h' := h2) rfl ?_
  refine mX_ckv (v := .ref (gR h2 67 0)) (v' := .ref 68) (k' := 18) (ls' := [some (.ref 67), some (.int a1), some (.int a2), some (.int v1)]) (st' := [.ref 67, .int x3, .int v1, .int (9 + a1), .ref 68]) (h' := h2) (k_67 L2) (congrArg Value.ref (r_67_0 L2)) rfl ?_
  refine mX_to 1 (k' := 19) (ls' := [some (.ref 67), some (.int a1), some (.int a2), some (.int v1)]) (st' := [.int 3, .ref 68, .ref 67, .int x3, .int v1, .int (9 + a1), .ref 68]) (h' := h2) rfl ?_
  refine mX_ckv (v := .int (gI h2 68 (ix (3 : Int32)))) (v' := .int (gI h2 68 3)) (k' := 20) (ls' := [some (.ref 67), some (.int a1), some (.int a2), some (.int v1)]) (st' := [.ref 67, .int x3, .int v1, .int (9 + a1), .ref 68]) (h' := h2) ((ckA1 (k_68 L2) (n_68 L2)).mpr (ib_lit (n := 3) rfl (by decide) (by decide))) (congrArg (fun j => Value.int (gI h2 68 j)) (ix_lit (n := 3) rfl (by decide))) rfl ?_
  refine mX_to 1 (k' := 21) (ls' := [some (.ref 67), some (.int a1), some (.int a2), some (.int v1)]) (st' := [.int a1, .int (gI h2 68 3), .ref 67, .int x3, .int v1, .int (9 + a1), .ref 68]) (h' := h2) rfl ?_
  refine mX_ckct (m := mcl (mE mtab d 196 [.ref 67, .int (gI h2 68 3), .int a1] h2) 1 22 [some (.ref 67), some (.int a1), some (.int a2), some (.int v1)] [.int x3, .int v1, .int (9 + a1), .ref 68]) (k_67 L2) rfl ?_
  refine mk_cIe (o := F_X11_slidesOf d (gI h2 68 3) a1 h2) ?_
  intro x5 h4 eh4
  have L4 : lay h4 := lay_call d 196 [.ref 67, .int (gI h2 68 3), .int a1] h2 _ h4 rfl eh4 L2
  refine mX_to 5 (k' := 27) (ls' := [some (.ref 67), some (.int a1), some (.int a2), some (.int v1)]) (st' := [.int 8, .int 0, .long (((v1 + (x3 * x5)) : Int32).toInt64), .int (9 + a1), .ref 68]) (h' := h4) rfl ?_
  refine mX_cIe (o := F_X11_cut d (((v1 + (x3 * x5)) : Int32).toInt64) 0 8 h4) (k' := 28) (ls' := [some (.ref 67), some (.int a1), some (.int a2), some (.int v1)]) (st' := [.int (9 + a1), .ref 68]) rfl ?_
  intro x7 h6 eh6
  have L6 : lay h6 := lay_call d 170 [.long (((v1 + (x3 * x5)) : Int32).toInt64), .int 0, .int 8] h4 _ h6 rfl eh6 L4
  refine mX_cki (k' := 29) (ls' := [some (.ref 67), some (.int a1), some (.int a2), some (.int v1)]) (st' := []) (h' := (sI h6 68 (ix (9 + a1)) x7)) (ckA0 (k_68 L6) (n_68 L6)) rfl fun c8 => ?_
  refine lt_geq2 (X := fun h9 : MH => mX (mE mtab d) KX11_slide 29 [some (.ref 67), some (.int a1), some (.int a2), some (.int v1)] [] h9) (a := (sI h6 68 (ix (9 + a1)) x7)) (a' := (sI h6 68 (ix (9 + a1)) x7)) rfl fun h9 eh9 => ?_
  have L9 : lay h9 := eh9 ▸ layI L6 (by decide)
  refine mX_to 1 (k' := 30) (ls' := [some (.ref 67), some (.int a1), some (.int a2), some (.int v1)]) (st' := [.ref 67]) (h' := h9) rfl ?_
  refine mX_ckv (v := .ref (gR h9 67 0)) (v' := .ref 68) (k' := 31) (ls' := [some (.ref 67), some (.int a1), some (.int a2), some (.int v1)]) (st' := []) (h' := h9) (k_67 L9) (congrArg Value.ref (r_67_0 L9)) rfl ?_
  refine mX_to 3 (k' := 34) (ls' := [some (.ref 67), some (.int a1), some (.int a2), some (.int v1)]) (st' := [.int (9 + a1), .ref 68]) (h' := h9) rfl ?_
  refine mX_ckw (v := .int (gI h9 68 (ix (9 + a1)))) (v' := .int (gI h9 68 (ix (9 + a1)))) (k' := 35) (ls' := [some (.ref 67), some (.int a1), some (.int a2), some (.int v1)]) (st' := []) (h' := h9) (ckA1 (k_68 L9) (n_68 L9)) rfl rfl fun c11 => ?_
  refine mX_to 1 (k' := 36) (ls' := [some (.ref 67), some (.int a1), some (.int a2), some (.int v1)]) (st' := [.int v1, .int (gI h9 68 (ix (9 + a1)))]) (h' := h9) rfl ?_
  refine mX_br (t := 41) (f := 37) (ls' := [some (.ref 67), some (.int a1), some (.int a2), some (.int v1)]) (st' := []) (h' := h9) rfl ?_ ?_
  · exact mX_ret rfl
  · refine mX_to 3 (k' := 40) (ls' := [some (.ref 67), some (.int a1), some (.int a2), some (.int v1)]) (st' := [.int v1, .int a1, .ref 67]) (h' := h9) rfl ?_
    refine mX_ckct (m := mcl (mE mtab d 197 [.ref 67, .int a1, .int v1] h9) 0 41 [some (.ref 67), some (.int a1), some (.int a2), some (.int v1)] []) (k_67 L9) rfl ?_
    refine mk_cVe (o := F_X11_write d a1 v1 h9) ?_
    intro wh10 h10 eh10
    have L10 : lay h10 := lay_call d 197 [.ref 67, .int a1, .int v1] h9 _ h10 rfl eh10 L9
    exact mX_ret rfl
theorem S_X11_pass_22 {h : MH} (L : lay h) (d : Nat) (l1 : Int32) : G_X11_pass_22 d l1 h = cI (F_X11_isFar d h) (fun x8 h7 => (if x8 = 0 then G_X11_pass_52 d l1 none none h7 else cI (F_X11_tipNow d h7) (fun x10 h9 => (if x10 ≤ 0 then G_X11_pass_31 d l1 0 h9 else G_X11_pass_31 d l1 1 h9)))) := by
  refine mX_to 1 (k' := 23) (ls' := [some (.ref 67), some (.int l1), none, none]) (st' := [.ref 67]) (h' := h) rfl ?_
  refine mX_ckct (m := mcl (mE mtab d 173 [.ref 67] h) 1 24 [some (.ref 67), some (.int l1), none, none] []) (k_67 L) rfl ?_
  refine mk_cIe (o := F_X11_isFar d h) ?_
  intro x8 h7 eh7
  have L7 : lay h7 := lay_call d 173 [.ref 67] h _ h7 rfl eh7 L
  refine mX_br (t := 52) (f := 25) (ls' := [some (.ref 67), some (.int l1), none, none]) (st' := []) (h' := h7) rfl ?_ ?_
  · rfl
  · refine mX_to 1 (k' := 26) (ls' := [some (.ref 67), some (.int l1), none, none]) (st' := [.ref 67]) (h' := h7) rfl ?_
    refine mX_ckct (m := mcl (mE mtab d 156 [.ref 67] h7) 1 27 [some (.ref 67), some (.int l1), none, none] []) (k_67 L7) rfl ?_
    refine mk_cIe (o := F_X11_tipNow d h7) ?_
    intro x10 h9 eh9
    have L9 : lay h9 := lay_call d 156 [.ref 67] h7 _ h9 rfl eh9 L7
    refine mX_br (t := 30) (f := 28) (ls' := [some (.ref 67), some (.int l1), none, none]) (st' := []) (h' := h9) rfl ?_ ?_
    · refine mX_to 1 (k' := 31) (ls' := [some (.ref 67), some (.int l1), none, none]) (st' := [.int 0]) (h' := h9) rfl ?_
      rfl
    · refine mX_to 2 (k' := 31) (ls' := [some (.ref 67), some (.int l1), none, none]) (st' := [.int 1]) (h' := h9) rfl ?_
      rfl
theorem S_X11_pass_52 {h : MH} (L : lay h) (d : Nat) (l1 : Int32) (o2 : Option Value) (o3 : Option Value) : G_X11_pass_52 d l1 o2 o3 h = lt_ (sI h 68 6 ((gI h 68 6) + 1)) fun h12 => some (.int 0, h12) := by
  refine mX_to 1 (k' := 53) (ls' := [some (.ref 67), some (.int l1), o2, o3]) (st' := [.ref 67]) (h' := h) rfl ?_
  refine mX_ckv (v := .ref (gR h 67 0)) (v' := .ref 68) (k' := 54) (ls' := [some (.ref 67), some (.int l1), o2, o3]) (st' := []) (h' := h) (k_67 L) (congrArg Value.ref (r_67_0 L)) rfl ?_
  refine mX_to 2 (k' := 56) (ls' := [some (.ref 67), some (.int l1), o2, o3]) (st' := [.int 6, .ref 68, .int 6, .ref 68]) (h' := h) rfl ?_
  refine mX_ckv (v := .int (gI h 68 (ix (6 : Int32)))) (v' := .int (gI h 68 6)) (k' := 57) (ls' := [some (.ref 67), some (.int l1), o2, o3]) (st' := [.int 6, .ref 68]) (h' := h) ((ckA1 (k_68 L) (n_68 L)).mpr (ib_lit (n := 6) rfl (by decide) (by decide))) (congrArg (fun j => Value.int (gI h 68 j)) (ix_lit (n := 6) rfl (by decide))) rfl ?_
  refine mX_to 2 (k' := 59) (ls' := [some (.ref 67), some (.int l1), o2, o3]) (st' := [.int ((gI h 68 6) + 1), .int 6, .ref 68]) (h' := h) rfl ?_
  refine mX_ckt (k' := 60) (ls' := [some (.ref 67), some (.int l1), o2, o3]) (st' := []) (h' := (sI h 68 (ix (6 : Int32)) ((gI h 68 6) + 1))) ((ckA0 (k_68 L) (n_68 L)).mpr (ib_lit (n := 6) rfl (by decide) (by decide))) rfl ?_
  refine lt_geq2 (X := fun h12 : MH => mX (mE mtab d) KX11_pass 60 [some (.ref 67), some (.int l1), o2, o3] [] h12) (a := (sI h 68 (ix (6 : Int32)) ((gI h 68 6) + 1))) (a' := (sI h 68 6 ((gI h 68 6) + 1))) (congrArg (fun j => sI h 68 j ((gI h 68 6) + 1)) (ix_lit (n := 6) rfl (by decide))) fun h12 eh12 => ?_
  have L12 : lay h12 := eh12 ▸ layI L (by decide)
  exact mX_ret rfl
theorem S_X11_pass_31 {h : MH} (L : lay h) (d : Nat) (l1 : Int32) (s0 : Int32) : G_X11_pass_31 d l1 s0 h = lt_ (sI h 67 24 ((gI h 67 24) + 1)) fun h14 => G_X11_pass_40 d l1 s0 0 h14 := by
  refine mX_to 3 (k' := 34) (ls' := [some (.ref 67), some (.int l1), some (.int s0), none]) (st' := [.ref 67, .ref 67]) (h' := h) rfl ?_
  refine mX_ckv (v := .int (gI h 67 24)) (v' := .int (gI h 67 24)) (k' := 35) (ls' := [some (.ref 67), some (.int l1), some (.int s0), none]) (st' := [.ref 67]) (h' := h) (k_67 L) rfl rfl ?_
  refine mX_to 2 (k' := 37) (ls' := [some (.ref 67), some (.int l1), some (.int s0), none]) (st' := [.int ((gI h 67 24) + 1), .ref 67]) (h' := h) rfl ?_
  refine mX_ckt (k' := 38) (ls' := [some (.ref 67), some (.int l1), some (.int s0), none]) (st' := []) (h' := (sI h 67 24 ((gI h 67 24) + 1))) (k_67 L) rfl ?_
  refine lt_geq2 (X := fun h14 : MH => mX (mE mtab d) KX11_pass 38 [some (.ref 67), some (.int l1), some (.int s0), none] [] h14) (a := (sI h 67 24 ((gI h 67 24) + 1))) (a' := (sI h 67 24 ((gI h 67 24) + 1))) rfl fun h14 eh14 => ?_
  have L14 : lay h14 := eh14 ▸ layI L (by decide)
  refine mX_to 2 (k' := 40) (ls' := [some (.ref 67), some (.int l1), some (.int s0), some (.int 0)]) (st' := []) (h' := h14) rfl ?_
  rfl
theorem S_X11_pass_40 {h : MH} (L : lay h) (d : Nat) (l1 : Int32) (l2 : Int32) (l3 : Int32) : G_X11_pass_40 d l1 l2 l3 h = (if l3 < (gI h 68 0) then cV (F_X11_slide d l3 l2 h) (fun h15 => G_X11_pass_40 d l1 l2 (l3 + 1) h15) else G_X11_pass_52 d l1 (some (.int l2)) (some (.int l3)) h) := by
  refine mX_to 2 (k' := 42) (ls' := [some (.ref 67), some (.int l1), some (.int l2), some (.int l3)]) (st' := [.ref 67, .int l3]) (h' := h) rfl ?_
  refine mX_ckv (v := .ref (gR h 67 0)) (v' := .ref 68) (k' := 43) (ls' := [some (.ref 67), some (.int l1), some (.int l2), some (.int l3)]) (st' := [.int l3]) (h' := h) (k_67 L) (congrArg Value.ref (r_67_0 L)) rfl ?_
  refine mX_to 1 (k' := 44) (ls' := [some (.ref 67), some (.int l1), some (.int l2), some (.int l3)]) (st' := [.int 0, .ref 68, .int l3]) (h' := h) rfl ?_
  refine mX_ckv (v := .int (gI h 68 (ix (0 : Int32)))) (v' := .int (gI h 68 0)) (k' := 45) (ls' := [some (.ref 67), some (.int l1), some (.int l2), some (.int l3)]) (st' := [.int l3]) (h' := h) ((ckA1 (k_68 L) (n_68 L)).mpr (ib_lit (n := 0) rfl (by decide) (by decide))) (congrArg (fun j => Value.int (gI h 68 j)) (ix_lit (n := 0) rfl (by decide))) rfl ?_
  refine mX_br (t := 46) (f := 52) (ls' := [some (.ref 67), some (.int l1), some (.int l2), some (.int l3)]) (st' := []) (h' := h) rfl ?_ ?_
  · refine mX_to 3 (k' := 49) (ls' := [some (.ref 67), some (.int l1), some (.int l2), some (.int l3)]) (st' := [.int l2, .int l3, .ref 67]) (h' := h) rfl ?_
    refine mX_ckct (m := mcl (mE mtab d 198 [.ref 67, .int l3, .int l2] h) 0 50 [some (.ref 67), some (.int l1), some (.int l2), some (.int l3)] []) (k_67 L) rfl ?_
    refine mk_cVe (o := F_X11_slide d l3 l2 h) ?_
    intro wh15 h15 eh15
    have L15 : lay h15 := lay_call d 198 [.ref 67, .int l3, .int l2] h _ h15 rfl eh15 L
    refine mX_to 2 (k' := 40) (ls' := [some (.ref 67), some (.int l1), some (.int l2), some (.int (l3 + 1))]) (st' := []) (h' := h15) rfl ?_
    rfl
  · rfl
theorem S_X11_pass {h : MH} (L : lay h) (d : Nat) : F_X11_pass (d + 1) h = cI (F_X11_drawnBy d 9 h) (fun x2 h1 => ck (ib (13 + x2) 1498) ((if (gI h1 68 (ix (13 + x2))) < 9 then ck (ib (13 + x2) 1498) (ck (ib (13 + x2) 1498) (lt_ (sI h1 68 (ix (13 + x2)) ((gI h1 68 (ix (13 + x2))) + 1)) fun h4 => G_X11_pass_22 d x2 h4)) else G_X11_pass_22 d x2 h1))) := by
  refine mE_eq (q := (yX11_pass, cX11_pass, 4, none, KX11_pass)) (C := KX11_pass) (ls := [some (.ref 67), none, none, none]) rfl rfl rfl rfl ?_
  refine mX_to 2 (k' := 2) (ls' := [some (.ref 67), none, none, none]) (st' := [.int 9, .ref 67]) (h' := h) rfl ?_
  refine mX_ckct (m := mcl (mE mtab d 195 [.ref 67, .int 9] h) 1 3 [some (.ref 67), none, none, none] []) (k_67 L) rfl ?_
  refine mk_cIe (o := F_X11_drawnBy d 9 h) ?_
  intro x2 h1 eh1
  have L1 : lay h1 := lay_call d 195 [.ref 67, .int 9] h _ h1 rfl eh1 L
  refine mX_to 2 (k' := 5) (ls' := [some (.ref 67), some (.int x2), none, none]) (st' := [.ref 67]) (h' := h1) rfl ?_
  refine mX_ckv (v := .ref (gR h1 67 0)) (v' := .ref 68) (k' := 6) (ls' := [some (.ref 67), some (.int x2), none, none]) (st' := []) (h' := h1) (k_67 L1) (congrArg Value.ref (r_67_0 L1)) rfl ?_
  refine mX_to 3 (k' := 9) (ls' := [some (.ref 67), some (.int x2), none, none]) (st' := [.int (13 + x2), .ref 68]) (h' := h1) rfl ?_
  refine mX_ckw (v := .int (gI h1 68 (ix (13 + x2)))) (v' := .int (gI h1 68 (ix (13 + x2)))) (k' := 10) (ls' := [some (.ref 67), some (.int x2), none, none]) (st' := []) (h' := h1) (ckA1 (k_68 L1) (n_68 L1)) rfl rfl fun c6 => ?_
  refine mX_to 1 (k' := 11) (ls' := [some (.ref 67), some (.int x2), none, none]) (st' := [.int 9, .int (gI h1 68 (ix (13 + x2)))]) (h' := h1) rfl ?_
  refine mX_br (t := 12) (f := 22) (ls' := [some (.ref 67), some (.int x2), none, none]) (st' := []) (h' := h1) rfl ?_ ?_
  · refine mX_to 1 (k' := 13) (ls' := [some (.ref 67), some (.int x2), none, none]) (st' := [.ref 67]) (h' := h1) rfl ?_
    refine mX_ckv (v := .ref (gR h1 67 0)) (v' := .ref 68) (k' := 14) (ls' := [some (.ref 67), some (.int x2), none, none]) (st' := []) (h' := h1) (k_67 L1) (congrArg Value.ref (r_67_0 L1)) rfl ?_
    refine mX_to 4 (k' := 18) (ls' := [some (.ref 67), some (.int x2), none, none]) (st' := [.int (13 + x2), .ref 68, .int (13 + x2), .ref 68]) (h' := h1) rfl ?_
    refine mX_ckw (v := .int (gI h1 68 (ix (13 + x2)))) (v' := .int (gI h1 68 (ix (13 + x2)))) (k' := 19) (ls' := [some (.ref 67), some (.int x2), none, none]) (st' := [.int (13 + x2), .ref 68]) (h' := h1) (ckA1 (k_68 L1) (n_68 L1)) rfl rfl fun c5 => ?_
    refine mX_to 2 (k' := 21) (ls' := [some (.ref 67), some (.int x2), none, none]) (st' := [.int ((gI h1 68 (ix (13 + x2))) + 1), .int (13 + x2), .ref 68]) (h' := h1) rfl ?_
    refine mX_cki (k' := 22) (ls' := [some (.ref 67), some (.int x2), none, none]) (st' := []) (h' := (sI h1 68 (ix (13 + x2)) ((gI h1 68 (ix (13 + x2))) + 1))) (ckA0 (k_68 L1) (n_68 L1)) rfl fun c3 => ?_
    refine lt_geq2 (X := fun h4 : MH => mX (mE mtab d) KX11_pass 22 [some (.ref 67), some (.int x2), none, none] [] h4) (a := (sI h1 68 (ix (13 + x2)) ((gI h1 68 (ix (13 + x2))) + 1))) (a' := (sI h1 68 (ix (13 + x2)) ((gI h1 68 (ix (13 + x2))) + 1))) rfl fun h4 eh4 => ?_
    have L4 : lay h4 := eh4 ▸ layI L1 (by decide)
    rfl
  · rfl
theorem S_X11_arePassed_5 {h : MH} (L : lay h) (d : Nat) (l1 : Int32) (l2 : Int32) : G_X11_arePassed_5 d l1 l2 h = (if l2 < l1 then (if (gI h 68 6) = 9999 then some (.int 0, h) else cV (F_X11_keep d h) (fun h3 => cV (F_X11_pass d h3) (fun h4 => G_X11_arePassed_5 d l1 (l2 + 1) h4))) else some (.int 1, h)) := by
  refine mX_to 2 (k' := 7) (ls' := [some (.ref 67), some (.int l1), some (.int l2)]) (st' := [.int l1, .int l2]) (h' := h) rfl ?_
  refine mX_br (t := 8) (f := 22) (ls' := [some (.ref 67), some (.int l1), some (.int l2)]) (st' := []) (h' := h) rfl ?_ ?_
  · refine mX_to 1 (k' := 9) (ls' := [some (.ref 67), some (.int l1), some (.int l2)]) (st' := [.ref 67]) (h' := h) rfl ?_
    refine mX_ckv (v := .ref (gR h 67 0)) (v' := .ref 68) (k' := 10) (ls' := [some (.ref 67), some (.int l1), some (.int l2)]) (st' := []) (h' := h) (k_67 L) (congrArg Value.ref (r_67_0 L)) rfl ?_
    refine mX_to 1 (k' := 11) (ls' := [some (.ref 67), some (.int l1), some (.int l2)]) (st' := [.int 6, .ref 68]) (h' := h) rfl ?_
    refine mX_ckv (v := .int (gI h 68 (ix (6 : Int32)))) (v' := .int (gI h 68 6)) (k' := 12) (ls' := [some (.ref 67), some (.int l1), some (.int l2)]) (st' := []) (h' := h) ((ckA1 (k_68 L) (n_68 L)).mpr (ib_lit (n := 6) rfl (by decide) (by decide))) (congrArg (fun j => Value.int (gI h 68 j)) (ix_lit (n := 6) rfl (by decide))) rfl ?_
    refine mX_to 1 (k' := 13) (ls' := [some (.ref 67), some (.int l1), some (.int l2)]) (st' := [.int 9999, .int (gI h 68 6)]) (h' := h) rfl ?_
    refine mX_br (t := 14) (f := 16) (ls' := [some (.ref 67), some (.int l1), some (.int l2)]) (st' := []) (h' := h) rfl ?_ ?_
    · refine mX_to 1 (k' := 15) (ls' := [some (.ref 67), some (.int l1), some (.int l2)]) (st' := [.int 0]) (h' := h) rfl ?_
      exact mX_retb (by decide) rfl
    · refine mX_to 1 (k' := 17) (ls' := [some (.ref 67), some (.int l1), some (.int l2)]) (st' := [.ref 67]) (h' := h) rfl ?_
      refine mX_ckct (m := mcl (mE mtab d 175 [.ref 67] h) 0 18 [some (.ref 67), some (.int l1), some (.int l2)] []) (k_67 L) rfl ?_
      refine mk_cVe (o := F_X11_keep d h) ?_
      intro wh3 h3 eh3
      have L3 : lay h3 := lay_call d 175 [.ref 67] h _ h3 rfl eh3 L
      refine mX_to 1 (k' := 19) (ls' := [some (.ref 67), some (.int l1), some (.int l2)]) (st' := [.ref 67]) (h' := h3) rfl ?_
      refine mX_ckct (m := mcl (mE mtab d 199 [.ref 67] h3) 0 20 [some (.ref 67), some (.int l1), some (.int l2)] []) (k_67 L3) rfl ?_
      refine mk_cVe (o := F_X11_pass d h3) ?_
      intro wh4 h4 eh4
      have L4 : lay h4 := lay_call d 199 [.ref 67] h3 _ h4 rfl eh4 L3
      refine mX_to 2 (k' := 5) (ls' := [some (.ref 67), some (.int l1), some (.int (l2 + 1))]) (st' := []) (h' := h4) rfl ?_
      rfl
  · refine mX_to 1 (k' := 23) (ls' := [some (.ref 67), some (.int l1), some (.int l2)]) (st' := [.int 1]) (h' := h) rfl ?_
    exact mX_retb (by decide) rfl
theorem S_X11_arePassed {h : MH} (L : lay h) (d : Nat) (a1 : Int32) : F_X11_arePassed (d + 1) a1 h = lt_ (sI h 67 24 0) fun h2 => G_X11_arePassed_5 d a1 0 h2 := by
  refine mE_eq (q := (yX11_arePassed, cX11_arePassed, 3, (some .boolean), KX11_arePassed)) (C := KX11_arePassed) (ls := [some (.ref 67), some (.int a1), none]) rfl rfl rfl rfl ?_
  refine mX_to 2 (k' := 2) (ls' := [some (.ref 67), some (.int a1), none]) (st' := [.int 0, .ref 67]) (h' := h) rfl ?_
  refine mX_ckt (k' := 3) (ls' := [some (.ref 67), some (.int a1), none]) (st' := []) (h' := (sI h 67 24 0)) (k_67 L) rfl ?_
  refine lt_geq2 (X := fun h2 : MH => mX (mE mtab d) KX11_arePassed 3 [some (.ref 67), some (.int a1), none] [] h2) (a := (sI h 67 24 0)) (a' := (sI h 67 24 0)) rfl fun h2 eh2 => ?_
  have L2 : lay h2 := eh2 ▸ layI L (by decide)
  refine mX_to 2 (k' := 5) (ls' := [some (.ref 67), some (.int a1), some (.int 0)]) (st' := []) (h' := h2) rfl ?_
  rfl
theorem S_X11_hour {h : MH} (L : lay h) (d : Nat) (a1 : Int32) : F_X11_hour (d + 1) a1 h = cI (F_X11_isIn d a1 1 60 h) (fun x2 h1 => (if x2 = 0 then some (.int (-1), h1) else (if ((gI h1 68 6) + a1) ≤ 9999 then cI (F_X11_arePassed d a1 h1) (fun x4 h3 => (if x4 = 0 then some (.int (-1), h3) else some (.int (gI h3 67 24), h3))) else some (.int (-1), h1)))) := by
  refine mE_eq (q := (yX11_hour, cX11_hour, 2, (some .int), KX11_hour)) (C := KX11_hour) (ls := [some (.ref 67), some (.int a1)]) rfl rfl rfl rfl ?_
  refine mX_to 3 (k' := 3) (ls' := [some (.ref 67), some (.int a1)]) (st' := [.int 60, .int 1, .int a1]) (h' := h) rfl ?_
  refine mX_cIe (o := F_X11_isIn d a1 1 60 h) (k' := 4) (ls' := [some (.ref 67), some (.int a1)]) (st' := []) rfl ?_
  intro x2 h1 eh1
  have L1 : lay h1 := lay_call d 14 [.int a1, .int 1, .int 60] h _ h1 rfl eh1 L
  refine mX_br (t := 20) (f := 5) (ls' := [some (.ref 67), some (.int a1)]) (st' := []) (h' := h1) rfl ?_ ?_
  · refine mX_to 1 (k' := 21) (ls' := [some (.ref 67), some (.int a1)]) (st' := [.int (-1)]) (h' := h1) rfl ?_
    exact mX_reti rfl
  · refine mX_to 1 (k' := 6) (ls' := [some (.ref 67), some (.int a1)]) (st' := [.ref 67]) (h' := h1) rfl ?_
    refine mX_ckv (v := .ref (gR h1 67 0)) (v' := .ref 68) (k' := 7) (ls' := [some (.ref 67), some (.int a1)]) (st' := []) (h' := h1) (k_67 L1) (congrArg Value.ref (r_67_0 L1)) rfl ?_
    refine mX_to 1 (k' := 8) (ls' := [some (.ref 67), some (.int a1)]) (st' := [.int 6, .ref 68]) (h' := h1) rfl ?_
    refine mX_ckv (v := .int (gI h1 68 (ix (6 : Int32)))) (v' := .int (gI h1 68 6)) (k' := 9) (ls' := [some (.ref 67), some (.int a1)]) (st' := []) (h' := h1) ((ckA1 (k_68 L1) (n_68 L1)).mpr (ib_lit (n := 6) rfl (by decide) (by decide))) (congrArg (fun j => Value.int (gI h1 68 j)) (ix_lit (n := 6) rfl (by decide))) rfl ?_
    refine mX_to 3 (k' := 12) (ls' := [some (.ref 67), some (.int a1)]) (st' := [.int 9999, .int ((gI h1 68 6) + a1)]) (h' := h1) rfl ?_
    refine mX_br (t := 13) (f := 20) (ls' := [some (.ref 67), some (.int a1)]) (st' := []) (h' := h1) rfl ?_ ?_
    · refine mX_to 2 (k' := 15) (ls' := [some (.ref 67), some (.int a1)]) (st' := [.int a1, .ref 67]) (h' := h1) rfl ?_
      refine mX_ckct (m := mcl (mE mtab d 200 [.ref 67, .int a1] h1) 1 16 [some (.ref 67), some (.int a1)] []) (k_67 L1) rfl ?_
      refine mk_cIe (o := F_X11_arePassed d a1 h1) ?_
      intro x4 h3 eh3
      have L3 : lay h3 := lay_call d 200 [.ref 67, .int a1] h1 _ h3 rfl eh3 L1
      refine mX_br (t := 20) (f := 17) (ls' := [some (.ref 67), some (.int a1)]) (st' := []) (h' := h3) rfl ?_ ?_
      · refine mX_to 1 (k' := 21) (ls' := [some (.ref 67), some (.int a1)]) (st' := [.int (-1)]) (h' := h3) rfl ?_
        exact mX_reti rfl
      · refine mX_to 1 (k' := 18) (ls' := [some (.ref 67), some (.int a1)]) (st' := [.ref 67]) (h' := h3) rfl ?_
        refine mX_ckv (v := .int (gI h3 67 24)) (v' := .int (gI h3 67 24)) (k' := 19) (ls' := [some (.ref 67), some (.int a1)]) (st' := []) (h' := h3) (k_67 L3) rfl rfl ?_
        refine mX_to 1 (k' := 21) (ls' := [some (.ref 67), some (.int a1)]) (st' := [.int (gI h3 67 24)]) (h' := h3) rfl ?_
        exact mX_reti rfl
    · refine mX_to 1 (k' := 21) (ls' := [some (.ref 67), some (.int a1)]) (st' := [.int (-1)]) (h' := h1) rfl ?_
      exact mX_reti rfl
theorem S_X0_does_13 {h : MH} (L : lay h) (d : Nat) (l1 : Int32) (l2 : Int32) (l3 : Int32) (s0 : Int32) : G_X0_does_13 d l1 l2 l3 s0 h = cI (F_X0_waits d l2 h) (fun x12 h11 => ck (mrt 1 s0) (some (.int s0, h11))) := by
  refine mX_to 3 (k' := 16) (ls' := [some (.ref 9), some (.int l1), some (.int l2), some (.int l3), some (.int s0)]) (st' := [.int l2, .ref 9]) (h' := h) rfl ?_
  refine mX_ckct (m := mcl (mE mtab d 192 [.ref 9, .int l2] h) 1 17 [some (.ref 9), some (.int l1), some (.int l2), some (.int l3), some (.int s0)] []) (k_9 L) rfl ?_
  refine mk_cIe (o := F_X0_waits d l2 h) ?_
  intro x12 h11 eh11
  have L11 : lay h11 := lay_call d 192 [.ref 9, .int l2] h _ h11 rfl eh11 L
  refine mX_to 2 (k' := 19) (ls' := [some (.ref 9), some (.int l1), some (.int l2), some (.int l3), some (.int s0)]) (st' := [.int s0]) (h' := h11) rfl ?_
  exact mX_retc rfl
theorem S_X0_does {h : MH} (L : lay h) (d : Nat) (a1 : Int32) (a2 : Int32) (a3 : Int32) : F_X0_does (d + 1) a1 a2 a3 h = (if a1 = 307 then (if ((gI h 10 5) + a2) ≤ 9999 then G_X0_does_13 d a1 a2 a3 1 h else G_X0_does_13 d a1 a2 a3 0 h) else (if a1 = 302 then cI (F_X9_settle d 10 a2 a3 h) (fun x2 h1 => (if x2 = (-1) then some (.int 0, h1) else some (.int 1, h1))) else (if a1 = 303 then cI (F_X9_aims d 10 a2 a3 h) (fun x4 h3 => ck (mrt 1 x4) (some (.int x4, h3))) else (if a1 = 304 then cI (F_X0_walks d a2 0 h) (fun x6 h5 => ck (mrt 1 x6) (some (.int x6, h5))) else (if a1 = 305 then cI (F_X0_walks d a2 1 h) (fun x8 h7 => ck (mrt 1 x8) (some (.int x8, h7))) else (if a1 = 306 then cI (F_X0_shovels d a3 a2 h) (fun x10 h9 => ck (mrt 1 x10) (some (.int x10, h9))) else some (.int 1, h))))))) := by
  refine mE_eq (q := (yX0_does, cX0_does, 5, (some .boolean), KX0_does)) (C := KX0_does) (ls := [some (.ref 9), some (.int a1), some (.int a2), some (.int a3), none]) rfl rfl rfl rfl ?_
  refine mX_to 2 (k' := 2) (ls' := [some (.ref 9), some (.int a1), some (.int a2), some (.int a3), none]) (st' := [.int 307, .int a1]) (h' := h) rfl ?_
  refine mX_br (t := 3) (f := 20) (ls' := [some (.ref 9), some (.int a1), some (.int a2), some (.int a3), none]) (st' := []) (h' := h) rfl ?_ ?_
  · refine mX_to 1 (k' := 4) (ls' := [some (.ref 9), some (.int a1), some (.int a2), some (.int a3), none]) (st' := [.ref 9]) (h' := h) rfl ?_
    refine mX_ckv (v := .ref (gR h 9 0)) (v' := .ref 10) (k' := 5) (ls' := [some (.ref 9), some (.int a1), some (.int a2), some (.int a3), none]) (st' := []) (h' := h) (k_9 L) (congrArg Value.ref (r_9_0 L)) rfl ?_
    refine mX_ckv (v := .int (gI h 10 5)) (v' := .int (gI h 10 5)) (k' := 6) (ls' := [some (.ref 9), some (.int a1), some (.int a2), some (.int a3), none]) (st' := []) (h' := h) (k_10 L) rfl rfl ?_
    refine mX_to 3 (k' := 9) (ls' := [some (.ref 9), some (.int a1), some (.int a2), some (.int a3), none]) (st' := [.int 9999, .int ((gI h 10 5) + a2)]) (h' := h) rfl ?_
    refine mX_br (t := 10) (f := 12) (ls' := [some (.ref 9), some (.int a1), some (.int a2), some (.int a3), none]) (st' := []) (h' := h) rfl ?_ ?_
    · refine mX_to 2 (k' := 13) (ls' := [some (.ref 9), some (.int a1), some (.int a2), some (.int a3), none]) (st' := [.int 1]) (h' := h) rfl ?_
      rfl
    · refine mX_to 1 (k' := 13) (ls' := [some (.ref 9), some (.int a1), some (.int a2), some (.int a3), none]) (st' := [.int 0]) (h' := h) rfl ?_
      rfl
  · refine mX_to 1 (k' := 21) (ls' := [some (.ref 9), some (.int a1), some (.int a2), some (.int a3), none]) (st' := [.int a1]) (h' := h) rfl ?_
    refine mX_sw (x := a1) (t := 54) (sw := [(302, 22), (303, 33), (304, 39), (305, 44), (306, 49)]) (ls' := [some (.ref 9), some (.int a1), some (.int a2), some (.int a3), none]) (st' := []) (h' := h) rfl ?_
    refine msw_cons ?_ ?_
    · refine mX_to 1 (k' := 23) (ls' := [some (.ref 9), some (.int a1), some (.int a2), some (.int a3), none]) (st' := [.ref 9]) (h' := h) rfl ?_
      refine mX_ckv (v := .ref (gR h 9 0)) (v' := .ref 10) (k' := 24) (ls' := [some (.ref 9), some (.int a1), some (.int a2), some (.int a3), none]) (st' := []) (h' := h) (k_9 L) (congrArg Value.ref (r_9_0 L)) rfl ?_
      refine mX_to 2 (k' := 26) (ls' := [some (.ref 9), some (.int a1), some (.int a2), some (.int a3), none]) (st' := [.int a3, .int a2, .ref 10]) (h' := h) rfl ?_
      refine mX_ckct (m := mcl (mE mtab d 12 [.ref 10, .int a2, .int a3] h) 1 27 [some (.ref 9), some (.int a1), some (.int a2), some (.int a3), none] []) (k_10 L) rfl ?_
      refine mk_cIe (o := F_X9_settle d 10 a2 a3 h) ?_
      intro x2 h1 eh1
      have L1 : lay h1 := lay_call d 12 [.ref 10, .int a2, .int a3] h _ h1 rfl eh1 L
      refine mX_to 1 (k' := 28) (ls' := [some (.ref 9), some (.int a1), some (.int a2), some (.int a3), none]) (st' := [.int (-1), .int x2]) (h' := h1) rfl ?_
      refine mX_br (t := 31) (f := 29) (ls' := [some (.ref 9), some (.int a1), some (.int a2), some (.int a3), none]) (st' := []) (h' := h1) rfl ?_ ?_
      · refine mX_to 1 (k' := 32) (ls' := [some (.ref 9), some (.int a1), some (.int a2), some (.int a3), none]) (st' := [.int 0]) (h' := h1) rfl ?_
        exact mX_retb (by decide) rfl
      · refine mX_to 2 (k' := 32) (ls' := [some (.ref 9), some (.int a1), some (.int a2), some (.int a3), none]) (st' := [.int 1]) (h' := h1) rfl ?_
        exact mX_retb (by decide) rfl
    refine msw_cons ?_ ?_
    · refine mX_to 1 (k' := 34) (ls' := [some (.ref 9), some (.int a1), some (.int a2), some (.int a3), none]) (st' := [.ref 9]) (h' := h) rfl ?_
      refine mX_ckv (v := .ref (gR h 9 0)) (v' := .ref 10) (k' := 35) (ls' := [some (.ref 9), some (.int a1), some (.int a2), some (.int a3), none]) (st' := []) (h' := h) (k_9 L) (congrArg Value.ref (r_9_0 L)) rfl ?_
      refine mX_to 2 (k' := 37) (ls' := [some (.ref 9), some (.int a1), some (.int a2), some (.int a3), none]) (st' := [.int a3, .int a2, .ref 10]) (h' := h) rfl ?_
      refine mX_ckct (m := mcl (mE mtab d 18 [.ref 10, .int a2, .int a3] h) 1 38 [some (.ref 9), some (.int a1), some (.int a2), some (.int a3), none] []) (k_10 L) rfl ?_
      refine mk_cIe (o := F_X9_aims d 10 a2 a3 h) ?_
      intro x4 h3 eh3
      have L3 : lay h3 := lay_call d 18 [.ref 10, .int a2, .int a3] h _ h3 rfl eh3 L
      exact mX_retc rfl
    refine msw_cons ?_ ?_
    · refine mX_to 3 (k' := 42) (ls' := [some (.ref 9), some (.int a1), some (.int a2), some (.int a3), none]) (st' := [.int 0, .int a2, .ref 9]) (h' := h) rfl ?_
      refine mX_ckct (m := mcl (mE mtab d 149 [.ref 9, .int a2, .int 0] h) 1 43 [some (.ref 9), some (.int a1), some (.int a2), some (.int a3), none] []) (k_9 L) rfl ?_
      refine mk_cIe (o := F_X0_walks d a2 0 h) ?_
      intro x6 h5 eh5
      have L5 : lay h5 := lay_call d 149 [.ref 9, .int a2, .int 0] h _ h5 rfl eh5 L
      exact mX_retc rfl
    refine msw_cons ?_ ?_
    · refine mX_to 3 (k' := 47) (ls' := [some (.ref 9), some (.int a1), some (.int a2), some (.int a3), none]) (st' := [.int 1, .int a2, .ref 9]) (h' := h) rfl ?_
      refine mX_ckct (m := mcl (mE mtab d 149 [.ref 9, .int a2, .int 1] h) 1 48 [some (.ref 9), some (.int a1), some (.int a2), some (.int a3), none] []) (k_9 L) rfl ?_
      refine mk_cIe (o := F_X0_walks d a2 1 h) ?_
      intro x8 h7 eh7
      have L7 : lay h7 := lay_call d 149 [.ref 9, .int a2, .int 1] h _ h7 rfl eh7 L
      exact mX_retc rfl
    refine msw_cons ?_ ?_
    · refine mX_to 3 (k' := 52) (ls' := [some (.ref 9), some (.int a1), some (.int a2), some (.int a3), none]) (st' := [.int a2, .int a3, .ref 9]) (h' := h) rfl ?_
      refine mX_ckct (m := mcl (mE mtab d 183 [.ref 9, .int a3, .int a2] h) 1 53 [some (.ref 9), some (.int a1), some (.int a2), some (.int a3), none] []) (k_9 L) rfl ?_
      refine mk_cIe (o := F_X0_shovels d a3 a2 h) ?_
      intro x10 h9 eh9
      have L9 : lay h9 := lay_call d 183 [.ref 9, .int a3, .int a2] h _ h9 rfl eh9 L
      exact mX_retc rfl
    refine msw_nil ?_
    refine mX_to 1 (k' := 55) (ls' := [some (.ref 9), some (.int a1), some (.int a2), some (.int a3), none]) (st' := [.int 1]) (h' := h) rfl ?_
    exact mX_retb (by decide) rfl
theorem S_X10_played_11 {h : MH} (L : lay h) (d : Nat) (l1 : Int32) (l2 : Nat) (l3 : Int32) : G_X10_played_11 d l1 l2 l3 h = ck (kd h l2 = 9) (ck (20 ≤ kd h (gR h l2 2) ∧ ¬ kd h (gR h l2 2) = 25 ∧ kd h (gR h l2 2) ≤ 26) ((if l3 < (nI (ln h (gR h l2 2))) then ck (kd h l2 = 9) (ck ((kd h (gR h l2 2) = 20 ∨ kd h (gR h l2 2) = 24) ∧ ib l3 (ln h (gR h l2 2))) (ck (kd h l2 = 9) (ck ((kd h (gR h l2 3) = 20 ∨ kd h (gR h l2 3) = 24) ∧ ib l3 (ln h (gR h l2 3))) (ck (kd h l2 = 9) (ck ((kd h (gR h l2 4) = 20 ∨ kd h (gR h l2 4) = 24) ∧ ib l3 (ln h (gR h l2 4))) (cI (F_X0_does d (gI h (gR h l2 2) (ix l3)) (gI h (gR h l2 3) (ix l3)) (gI h (gR h l2 4) (ix l3)) h) (fun x4 h3 => (if x4 = 0 then some (.int l3, h3) else G_X10_played_11 d l1 l2 (l3 + 1) h3)))))))) else some (.int (-1), h)))) := by
  refine mX_to 2 (k' := 13) (ls' := [some (.ref 8), some (.int l1), some (.ref l2), some (.int l3)]) (st' := [.ref l2, .int l3]) (h' := h) rfl ?_
  refine mX_ckw (v := .ref (gR h l2 2)) (v' := .ref (gR h l2 2)) (k' := 14) (ls' := [some (.ref 8), some (.int l1), some (.ref l2), some (.int l3)]) (st' := [.int l3]) (h' := h) Iff.rfl rfl rfl fun c12 => ?_
  refine mX_ckw (v := .int (nI (ln h (gR h l2 2)))) (v' := .int (nI (ln h (gR h l2 2)))) (k' := 15) (ls' := [some (.ref 8), some (.int l1), some (.ref l2), some (.int l3)]) (st' := [.int l3]) (h' := h) Iff.rfl rfl rfl fun c11 => ?_
  refine mX_br (t := 16) (f := 36) (ls' := [some (.ref 8), some (.int l1), some (.ref l2), some (.int l3)]) (st' := []) (h' := h) rfl ?_ ?_
  · refine mX_to 1 (k' := 17) (ls' := [some (.ref 8), some (.int l1), some (.ref l2), some (.int l3)]) (st' := [.ref 8]) (h' := h) rfl ?_
    refine mX_ckv (v := .ref (gR h 8 0)) (v' := .ref 9) (k' := 18) (ls' := [some (.ref 8), some (.int l1), some (.ref l2), some (.int l3)]) (st' := []) (h' := h) (k_8 L) (congrArg Value.ref (r_8_0 L)) rfl ?_
    refine mX_to 1 (k' := 19) (ls' := [some (.ref 8), some (.int l1), some (.ref l2), some (.int l3)]) (st' := [.ref l2, .ref 9]) (h' := h) rfl ?_
    refine mX_ckw (v := .ref (gR h l2 2)) (v' := .ref (gR h l2 2)) (k' := 20) (ls' := [some (.ref 8), some (.int l1), some (.ref l2), some (.int l3)]) (st' := [.ref 9]) (h' := h) Iff.rfl rfl rfl fun c10 => ?_
    refine mX_to 1 (k' := 21) (ls' := [some (.ref 8), some (.int l1), some (.ref l2), some (.int l3)]) (st' := [.int l3, .ref (gR h l2 2), .ref 9]) (h' := h) rfl ?_
    refine mX_ckw (v := .int (gI h (gR h l2 2) (ix l3))) (v' := .int (gI h (gR h l2 2) (ix l3))) (k' := 22) (ls' := [some (.ref 8), some (.int l1), some (.ref l2), some (.int l3)]) (st' := [.ref 9]) (h' := h) Iff.rfl rfl rfl fun c9 => ?_
    refine mX_to 1 (k' := 23) (ls' := [some (.ref 8), some (.int l1), some (.ref l2), some (.int l3)]) (st' := [.ref l2, .int (gI h (gR h l2 2) (ix l3)), .ref 9]) (h' := h) rfl ?_
    refine mX_ckw (v := .ref (gR h l2 3)) (v' := .ref (gR h l2 3)) (k' := 24) (ls' := [some (.ref 8), some (.int l1), some (.ref l2), some (.int l3)]) (st' := [.int (gI h (gR h l2 2) (ix l3)), .ref 9]) (h' := h) Iff.rfl rfl rfl fun c8 => ?_
    refine mX_to 1 (k' := 25) (ls' := [some (.ref 8), some (.int l1), some (.ref l2), some (.int l3)]) (st' := [.int l3, .ref (gR h l2 3), .int (gI h (gR h l2 2) (ix l3)), .ref 9]) (h' := h) rfl ?_
    refine mX_ckw (v := .int (gI h (gR h l2 3) (ix l3))) (v' := .int (gI h (gR h l2 3) (ix l3))) (k' := 26) (ls' := [some (.ref 8), some (.int l1), some (.ref l2), some (.int l3)]) (st' := [.int (gI h (gR h l2 2) (ix l3)), .ref 9]) (h' := h) Iff.rfl rfl rfl fun c7 => ?_
    refine mX_to 1 (k' := 27) (ls' := [some (.ref 8), some (.int l1), some (.ref l2), some (.int l3)]) (st' := [.ref l2, .int (gI h (gR h l2 3) (ix l3)), .int (gI h (gR h l2 2) (ix l3)), .ref 9]) (h' := h) rfl ?_
    refine mX_ckw (v := .ref (gR h l2 4)) (v' := .ref (gR h l2 4)) (k' := 28) (ls' := [some (.ref 8), some (.int l1), some (.ref l2), some (.int l3)]) (st' := [.int (gI h (gR h l2 3) (ix l3)), .int (gI h (gR h l2 2) (ix l3)), .ref 9]) (h' := h) Iff.rfl rfl rfl fun c6 => ?_
    refine mX_to 1 (k' := 29) (ls' := [some (.ref 8), some (.int l1), some (.ref l2), some (.int l3)]) (st' := [.int l3, .ref (gR h l2 4), .int (gI h (gR h l2 3) (ix l3)), .int (gI h (gR h l2 2) (ix l3)), .ref 9]) (h' := h) rfl ?_
    refine mX_ckw (v := .int (gI h (gR h l2 4) (ix l3))) (v' := .int (gI h (gR h l2 4) (ix l3))) (k' := 30) (ls' := [some (.ref 8), some (.int l1), some (.ref l2), some (.int l3)]) (st' := [.int (gI h (gR h l2 3) (ix l3)), .int (gI h (gR h l2 2) (ix l3)), .ref 9]) (h' := h) Iff.rfl rfl rfl fun c5 => ?_
    refine mX_ckct (m := mcl (mE mtab d 202 [.ref 9, .int (gI h (gR h l2 2) (ix l3)), .int (gI h (gR h l2 3) (ix l3)), .int (gI h (gR h l2 4) (ix l3))] h) 1 31 [some (.ref 8), some (.int l1), some (.ref l2), some (.int l3)] []) (k_9 L) rfl ?_
    refine mk_cIe (o := F_X0_does d (gI h (gR h l2 2) (ix l3)) (gI h (gR h l2 3) (ix l3)) (gI h (gR h l2 4) (ix l3)) h) ?_
    intro x4 h3 eh3
    have L3 : lay h3 := lay_call d 202 [.ref 9, .int (gI h (gR h l2 2) (ix l3)), .int (gI h (gR h l2 3) (ix l3)), .int (gI h (gR h l2 4) (ix l3))] h _ h3 rfl eh3 L
    refine mX_br (t := 32) (f := 34) (ls' := [some (.ref 8), some (.int l1), some (.ref l2), some (.int l3)]) (st' := []) (h' := h3) rfl ?_ ?_
    · refine mX_to 1 (k' := 33) (ls' := [some (.ref 8), some (.int l1), some (.ref l2), some (.int l3)]) (st' := [.int l3]) (h' := h3) rfl ?_
      exact mX_reti rfl
    · refine mX_to 2 (k' := 11) (ls' := [some (.ref 8), some (.int l1), some (.ref l2), some (.int (l3 + 1))]) (st' := []) (h' := h3) rfl ?_
      rfl
  · refine mX_to 1 (k' := 37) (ls' := [some (.ref 8), some (.int l1), some (.ref l2), some (.int l3)]) (st' := [.int (-1)]) (h' := h) rfl ?_
    exact mX_reti rfl
theorem S_X10_played {h : MH} (L : lay h) (d : Nat) (a1 : Int32) : F_X10_played (d + 1) a1 h = cR (F_X0_textOf d a1 h) (fun x2 h1 => (if x2 = 0 then some (.int (-2), h1) else G_X10_played_11 d a1 x2 0 h1)) := by
  refine mE_eq (q := (yX10_played, cX10_played, 4, (some .int), KX10_played)) (C := KX10_played) (ls := [some (.ref 8), some (.int a1), none, none]) rfl rfl rfl rfl ?_
  refine mX_to 1 (k' := 1) (ls' := [some (.ref 8), some (.int a1), none, none]) (st' := [.ref 8]) (h' := h) rfl ?_
  refine mX_ckv (v := .ref (gR h 8 0)) (v' := .ref 9) (k' := 2) (ls' := [some (.ref 8), some (.int a1), none, none]) (st' := []) (h' := h) (k_8 L) (congrArg Value.ref (r_8_0 L)) rfl ?_
  refine mX_to 1 (k' := 3) (ls' := [some (.ref 8), some (.int a1), none, none]) (st' := [.int a1, .ref 9]) (h' := h) rfl ?_
  refine mX_ckct (m := mcl (mE mtab d 133 [.ref 9, .int a1] h) 3 4 [some (.ref 8), some (.int a1), none, none] []) (k_9 L) rfl ?_
  refine mk_cRe (o := F_X0_textOf d a1 h) ?_
  intro x2 h1 eh1
  have L1 : lay h1 := lay_call d 133 [.ref 9, .int a1] h _ h1 rfl eh1 L
  refine mX_to 2 (k' := 6) (ls' := [some (.ref 8), some (.int a1), some (.ref x2), none]) (st' := [.ref x2]) (h' := h1) rfl ?_
  refine mX_br (t := 7) (f := 9) (ls' := [some (.ref 8), some (.int a1), some (.ref x2), none]) (st' := []) (h' := h1) rfl ?_ ?_
  · refine mX_to 1 (k' := 8) (ls' := [some (.ref 8), some (.int a1), some (.ref x2), none]) (st' := [.int (-2)]) (h' := h1) rfl ?_
    exact mX_reti rfl
  · refine mX_to 2 (k' := 11) (ls' := [some (.ref 8), some (.int a1), some (.ref x2), some (.int 0)]) (st' := []) (h' := h1) rfl ?_
    rfl
theorem S_X11_isPlayed {h : MH} (L : lay h) (d : Nat) (a1 : Int32) : F_X11_isPlayed (d + 1) a1 h = ck (ib (a1 + 1) 2724) (lt_ (gI h 70 (ix (a1 + 1))) fun v1 => ck (ib (a1 + 2) 2724) (lt_ (gI h 70 (ix (a1 + 2))) fun v2 => ck (ib a1 2724) ((if (gI h 70 (ix a1)) = 2 then cI (F_X11_person d v1 v2 h) (fun x4 h3 => (if x4 < 0 then some (.int 0, h3) else some (.int 1, h3))) else (if (gI h 70 (ix a1)) = 3 then cI (F_X11_goal d v1 v2 h) (fun x6 h5 => ck (mrt 1 x6) (some (.int x6, h5))) else (if (gI h 70 (ix a1)) = 4 then cI (F_X11_walk d v1 0 h) (fun x8 h7 => ck (mrt 1 x8) (some (.int x8, h7))) else (if (gI h 70 (ix a1)) = 5 then cI (F_X11_walk d v1 1 h) (fun x10 h9 => ck (mrt 1 x10) (some (.int x10, h9))) else (if (gI h 70 (ix a1)) = 6 then cI (F_X11_shovel d v2 v1 h) (fun x12 h11 => ck (mrt 1 x12) (some (.int x12, h11))) else (if (gI h 70 (ix a1)) = 7 then cI (F_X11_arePassed d v1 h) (fun x14 h13 => ck (mrt 1 x14) (some (.int x14, h13))) else some (.int 1, h)))))))))) := by
  refine mE_eq (q := (yX11_isPlayed, cX11_isPlayed, 4, (some .boolean), KX11_isPlayed)) (C := KX11_isPlayed) (ls := [some (.ref 67), some (.int a1), none, none]) rfl rfl rfl rfl ?_
  refine mX_to 1 (k' := 1) (ls' := [some (.ref 67), some (.int a1), none, none]) (st' := [.ref 67]) (h' := h) rfl ?_
  refine mX_ckv (v := .ref (gR h 67 2)) (v' := .ref 70) (k' := 2) (ls' := [some (.ref 67), some (.int a1), none, none]) (st' := []) (h' := h) (k_67 L) (congrArg Value.ref (r_67_2 L)) rfl ?_
  refine mX_to 3 (k' := 5) (ls' := [some (.ref 67), some (.int a1), none, none]) (st' := [.int (a1 + 1), .ref 70]) (h' := h) rfl ?_
  refine mX_ckw (v := .int (gI h 70 (ix (a1 + 1)))) (v' := .int (gI h 70 (ix (a1 + 1)))) (k' := 6) (ls' := [some (.ref 67), some (.int a1), none, none]) (st' := []) (h' := h) (ckA1 (k_70 L) (n_70 L)) rfl rfl fun c17 => ?_
  refine lt_gen (X := fun v1 : Int32 => mX (mE mtab d) KX11_isPlayed 6 [some (.ref 67), some (.int a1), none, none] [.int v1] h) fun v1 => ?_
  refine mX_to 2 (k' := 8) (ls' := [some (.ref 67), some (.int a1), some (.int v1), none]) (st' := [.ref 67]) (h' := h) rfl ?_
  refine mX_ckv (v := .ref (gR h 67 2)) (v' := .ref 70) (k' := 9) (ls' := [some (.ref 67), some (.int a1), some (.int v1), none]) (st' := []) (h' := h) (k_67 L) (congrArg Value.ref (r_67_2 L)) rfl ?_
  refine mX_to 3 (k' := 12) (ls' := [some (.ref 67), some (.int a1), some (.int v1), none]) (st' := [.int (a1 + 2), .ref 70]) (h' := h) rfl ?_
  refine mX_ckw (v := .int (gI h 70 (ix (a1 + 2)))) (v' := .int (gI h 70 (ix (a1 + 2)))) (k' := 13) (ls' := [some (.ref 67), some (.int a1), some (.int v1), none]) (st' := []) (h' := h) (ckA1 (k_70 L) (n_70 L)) rfl rfl fun c16 => ?_
  refine lt_gen (X := fun v2 : Int32 => mX (mE mtab d) KX11_isPlayed 13 [some (.ref 67), some (.int a1), some (.int v1), none] [.int v2] h) fun v2 => ?_
  refine mX_to 2 (k' := 15) (ls' := [some (.ref 67), some (.int a1), some (.int v1), some (.int v2)]) (st' := [.ref 67]) (h' := h) rfl ?_
  refine mX_ckv (v := .ref (gR h 67 2)) (v' := .ref 70) (k' := 16) (ls' := [some (.ref 67), some (.int a1), some (.int v1), some (.int v2)]) (st' := []) (h' := h) (k_67 L) (congrArg Value.ref (r_67_2 L)) rfl ?_
  refine mX_to 1 (k' := 17) (ls' := [some (.ref 67), some (.int a1), some (.int v1), some (.int v2)]) (st' := [.int a1, .ref 70]) (h' := h) rfl ?_
  refine mX_ckw (v := .int (gI h 70 (ix a1))) (v' := .int (gI h 70 (ix a1))) (k' := 18) (ls' := [some (.ref 67), some (.int a1), some (.int v1), some (.int v2)]) (st' := []) (h' := h) (ckA1 (k_70 L) (n_70 L)) rfl rfl fun c15 => ?_
  refine mX_sw (x := (gI h 70 (ix a1))) (t := 52) (sw := [(2, 19), (3, 28), (4, 33), (5, 38), (6, 43), (7, 48)]) (ls' := [some (.ref 67), some (.int a1), some (.int v1), some (.int v2)]) (st' := []) (h' := h) rfl ?_
  refine msw_cons ?_ ?_
  · refine mX_to 3 (k' := 22) (ls' := [some (.ref 67), some (.int a1), some (.int v1), some (.int v2)]) (st' := [.int v2, .int v1, .ref 67]) (h' := h) rfl ?_
    refine mX_ckct (m := mcl (mE mtab d 16 [.ref 67, .int v1, .int v2] h) 1 23 [some (.ref 67), some (.int a1), some (.int v1), some (.int v2)] []) (k_67 L) rfl ?_
    refine mk_cIe (o := F_X11_person d v1 v2 h) ?_
    intro x4 h3 eh3
    have L3 : lay h3 := lay_call d 16 [.ref 67, .int v1, .int v2] h _ h3 rfl eh3 L
    refine mX_br (t := 26) (f := 24) (ls' := [some (.ref 67), some (.int a1), some (.int v1), some (.int v2)]) (st' := []) (h' := h3) rfl ?_ ?_
    · refine mX_to 1 (k' := 27) (ls' := [some (.ref 67), some (.int a1), some (.int v1), some (.int v2)]) (st' := [.int 0]) (h' := h3) rfl ?_
      exact mX_retb (by decide) rfl
    · refine mX_to 2 (k' := 27) (ls' := [some (.ref 67), some (.int a1), some (.int v1), some (.int v2)]) (st' := [.int 1]) (h' := h3) rfl ?_
      exact mX_retb (by decide) rfl
  refine msw_cons ?_ ?_
  · refine mX_to 3 (k' := 31) (ls' := [some (.ref 67), some (.int a1), some (.int v1), some (.int v2)]) (st' := [.int v2, .int v1, .ref 67]) (h' := h) rfl ?_
    refine mX_ckct (m := mcl (mE mtab d 21 [.ref 67, .int v1, .int v2] h) 1 32 [some (.ref 67), some (.int a1), some (.int v1), some (.int v2)] []) (k_67 L) rfl ?_
    refine mk_cIe (o := F_X11_goal d v1 v2 h) ?_
    intro x6 h5 eh5
    have L5 : lay h5 := lay_call d 21 [.ref 67, .int v1, .int v2] h _ h5 rfl eh5 L
    exact mX_retc rfl
  refine msw_cons ?_ ?_
  · refine mX_to 3 (k' := 36) (ls' := [some (.ref 67), some (.int a1), some (.int v1), some (.int v2)]) (st' := [.int 0, .int v1, .ref 67]) (h' := h) rfl ?_
    refine mX_ckct (m := mcl (mE mtab d 176 [.ref 67, .int v1, .int 0] h) 1 37 [some (.ref 67), some (.int a1), some (.int v1), some (.int v2)] []) (k_67 L) rfl ?_
    refine mk_cIe (o := F_X11_walk d v1 0 h) ?_
    intro x8 h7 eh7
    have L7 : lay h7 := lay_call d 176 [.ref 67, .int v1, .int 0] h _ h7 rfl eh7 L
    exact mX_retc rfl
  refine msw_cons ?_ ?_
  · refine mX_to 3 (k' := 41) (ls' := [some (.ref 67), some (.int a1), some (.int v1), some (.int v2)]) (st' := [.int 1, .int v1, .ref 67]) (h' := h) rfl ?_
    refine mX_ckct (m := mcl (mE mtab d 176 [.ref 67, .int v1, .int 1] h) 1 42 [some (.ref 67), some (.int a1), some (.int v1), some (.int v2)] []) (k_67 L) rfl ?_
    refine mk_cIe (o := F_X11_walk d v1 1 h) ?_
    intro x10 h9 eh9
    have L9 : lay h9 := lay_call d 176 [.ref 67, .int v1, .int 1] h _ h9 rfl eh9 L
    exact mX_retc rfl
  refine msw_cons ?_ ?_
  · refine mX_to 3 (k' := 46) (ls' := [some (.ref 67), some (.int a1), some (.int v1), some (.int v2)]) (st' := [.int v1, .int v2, .ref 67]) (h' := h) rfl ?_
    refine mX_ckct (m := mcl (mE mtab d 186 [.ref 67, .int v2, .int v1] h) 1 47 [some (.ref 67), some (.int a1), some (.int v1), some (.int v2)] []) (k_67 L) rfl ?_
    refine mk_cIe (o := F_X11_shovel d v2 v1 h) ?_
    intro x12 h11 eh11
    have L11 : lay h11 := lay_call d 186 [.ref 67, .int v2, .int v1] h _ h11 rfl eh11 L
    exact mX_retc rfl
  refine msw_cons ?_ ?_
  · refine mX_to 2 (k' := 50) (ls' := [some (.ref 67), some (.int a1), some (.int v1), some (.int v2)]) (st' := [.int v1, .ref 67]) (h' := h) rfl ?_
    refine mX_ckct (m := mcl (mE mtab d 200 [.ref 67, .int v1] h) 1 51 [some (.ref 67), some (.int a1), some (.int v1), some (.int v2)] []) (k_67 L) rfl ?_
    refine mk_cIe (o := F_X11_arePassed d v1 h) ?_
    intro x14 h13 eh13
    have L13 : lay h13 := lay_call d 200 [.ref 67, .int v1] h _ h13 rfl eh13 L
    exact mX_retc rfl
  refine msw_nil ?_
  refine mX_to 1 (k' := 53) (ls' := [some (.ref 67), some (.int a1), some (.int v1), some (.int v2)]) (st' := [.int 1]) (h' := h) rfl ?_
  exact mX_retb (by decide) rfl
theorem S_X11_played_14 {h : MH} (L : lay h) (d : Nat) (l1 : Int32) (l2 : Int32) : G_X11_played_14 d l1 l2 h = ck (ib (681 * l1) 2724) ((if l2 < (gI h 70 (ix (681 * l1))) then cI (F_X11_isPlayed d (((681 * l1) + 1) + (3 * l2)) h) (fun x4 h3 => (if x4 = 0 then some (.int l2, h3) else G_X11_played_14 d l1 (l2 + 1) h3)) else some (.int (-1), h))) := by
  refine mX_to 2 (k' := 16) (ls' := [some (.ref 67), some (.int l1), some (.int l2)]) (st' := [.ref 67, .int l2]) (h' := h) rfl ?_
  refine mX_ckv (v := .ref (gR h 67 2)) (v' := .ref 70) (k' := 17) (ls' := [some (.ref 67), some (.int l1), some (.int l2)]) (st' := [.int l2]) (h' := h) (k_67 L) (congrArg Value.ref (r_67_2 L)) rfl ?_
  refine mX_to 3 (k' := 20) (ls' := [some (.ref 67), some (.int l1), some (.int l2)]) (st' := [.int (681 * l1), .ref 70, .int l2]) (h' := h) rfl ?_
  refine mX_ckw (v := .int (gI h 70 (ix (681 * l1)))) (v' := .int (gI h 70 (ix (681 * l1)))) (k' := 21) (ls' := [some (.ref 67), some (.int l1), some (.int l2)]) (st' := [.int l2]) (h' := h) (ckA1 (k_70 L) (n_70 L)) rfl rfl fun c5 => ?_
  refine mX_br (t := 22) (f := 38) (ls' := [some (.ref 67), some (.int l1), some (.int l2)]) (st' := []) (h' := h) rfl ?_ ?_
  · refine mX_to 10 (k' := 32) (ls' := [some (.ref 67), some (.int l1), some (.int l2)]) (st' := [.int (((681 * l1) + 1) + (3 * l2)), .ref 67]) (h' := h) rfl ?_
    refine mX_ckct (m := mcl (mE mtab d 204 [.ref 67, .int (((681 * l1) + 1) + (3 * l2))] h) 1 33 [some (.ref 67), some (.int l1), some (.int l2)] []) (k_67 L) rfl ?_
    refine mk_cIe (o := F_X11_isPlayed d (((681 * l1) + 1) + (3 * l2)) h) ?_
    intro x4 h3 eh3
    have L3 : lay h3 := lay_call d 204 [.ref 67, .int (((681 * l1) + 1) + (3 * l2))] h _ h3 rfl eh3 L
    refine mX_br (t := 34) (f := 36) (ls' := [some (.ref 67), some (.int l1), some (.int l2)]) (st' := []) (h' := h3) rfl ?_ ?_
    · refine mX_to 1 (k' := 35) (ls' := [some (.ref 67), some (.int l1), some (.int l2)]) (st' := [.int l2]) (h' := h3) rfl ?_
      exact mX_reti rfl
    · refine mX_to 2 (k' := 14) (ls' := [some (.ref 67), some (.int l1), some (.int (l2 + 1))]) (st' := []) (h' := h3) rfl ?_
      rfl
  · refine mX_to 1 (k' := 39) (ls' := [some (.ref 67), some (.int l1), some (.int l2)]) (st' := [.int (-1)]) (h' := h) rfl ?_
    exact mX_reti rfl
theorem S_X11_played {h : MH} (L : lay h) (d : Nat) (a1 : Int32) : F_X11_played (d + 1) a1 h = cI (F_X11_isIn d a1 0 ((gI h 68 2) - 1) h) (fun x2 h1 => (if x2 = 0 then some (.int (-2), h1) else G_X11_played_14 d a1 0 h1)) := by
  refine mE_eq (q := (yX11_played, cX11_played, 3, (some .int), KX11_played)) (C := KX11_played) (ls := [some (.ref 67), some (.int a1), none]) rfl rfl rfl rfl ?_
  refine mX_to 3 (k' := 3) (ls' := [some (.ref 67), some (.int a1), none]) (st' := [.ref 67, .int 0, .int a1]) (h' := h) rfl ?_
  refine mX_ckv (v := .ref (gR h 67 0)) (v' := .ref 68) (k' := 4) (ls' := [some (.ref 67), some (.int a1), none]) (st' := [.int 0, .int a1]) (h' := h) (k_67 L) (congrArg Value.ref (r_67_0 L)) rfl ?_
  refine mX_to 1 (k' := 5) (ls' := [some (.ref 67), some (.int a1), none]) (st' := [.int 2, .ref 68, .int 0, .int a1]) (h' := h) rfl ?_
  refine mX_ckv (v := .int (gI h 68 (ix (2 : Int32)))) (v' := .int (gI h 68 2)) (k' := 6) (ls' := [some (.ref 67), some (.int a1), none]) (st' := [.int 0, .int a1]) (h' := h) ((ckA1 (k_68 L) (n_68 L)).mpr (ib_lit (n := 2) rfl (by decide) (by decide))) (congrArg (fun j => Value.int (gI h 68 j)) (ix_lit (n := 2) rfl (by decide))) rfl ?_
  refine mX_to 2 (k' := 8) (ls' := [some (.ref 67), some (.int a1), none]) (st' := [.int ((gI h 68 2) - 1), .int 0, .int a1]) (h' := h) rfl ?_
  refine mX_cIe (o := F_X11_isIn d a1 0 ((gI h 68 2) - 1) h) (k' := 9) (ls' := [some (.ref 67), some (.int a1), none]) (st' := []) rfl ?_
  intro x2 h1 eh1
  have L1 : lay h1 := lay_call d 14 [.int a1, .int 0, .int ((gI h 68 2) - 1)] h _ h1 rfl eh1 L
  refine mX_br (t := 10) (f := 12) (ls' := [some (.ref 67), some (.int a1), none]) (st' := []) (h' := h1) rfl ?_ ?_
  · refine mX_to 1 (k' := 11) (ls' := [some (.ref 67), some (.int a1), none]) (st' := [.int (-2)]) (h' := h1) rfl ?_
    exact mX_reti rfl
  · refine mX_to 2 (k' := 14) (ls' := [some (.ref 67), some (.int a1), some (.int 0)]) (st' := []) (h' := h1) rfl ?_
    rfl
