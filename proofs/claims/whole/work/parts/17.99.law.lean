/-! EQUATIONS OF THE LAW (written by wip/gen/dgen.py) -/
set_option maxRecDepth 100000 in
theorem D_L_law_10 (d : Nat) (h : MH) (l0 : Nat) (l1 : Nat) (l2 : Nat) (l3 : Int32) : mX (mE mtab d) KL_law 10 [some (.ref l0), some (.ref l1), some (.ref l2), some (.int l3)] [] h = ck (20 ≤ kd h l0 ∧ ¬ kd h l0 = 25 ∧ kd h l0 ≤ 26) ((if l3 ≤ ((nI (ln h l0)) - 6) then ck ((kd h l0 = 20 ∨ kd h l0 = 24) ∧ ib l3 (ln h l0)) ((if ((gI h l0 (ix l3)) &&& 63) = 0 then mX (mE mtab d) KL_law 22 [some (.ref l0), some (.ref l1), some (.ref l2), some (.int l3)] [] h else (if ((gI h l0 (ix l3)) &&& 63) = 1 then mX (mE mtab d) KL_law 49 [some (.ref l0), some (.ref l1), some (.ref l2), some (.int l3)] [] h else (if ((gI h l0 (ix l3)) &&& 63) = 2 then mX (mE mtab d) KL_law 76 [some (.ref l0), some (.ref l1), some (.ref l2), some (.int l3)] [] h else (if ((gI h l0 (ix l3)) &&& 63) = 3 then mX (mE mtab d) KL_law 103 [some (.ref l0), some (.ref l1), some (.ref l2), some (.int l3)] [] h else (if ((gI h l0 (ix l3)) &&& 63) = 4 then mX (mE mtab d) KL_law 160 [some (.ref l0), some (.ref l1), some (.ref l2), some (.int l3)] [] h else (if ((gI h l0 (ix l3)) &&& 63) = 5 then mX (mE mtab d) KL_law 177 [some (.ref l0), some (.ref l1), some (.ref l2), some (.int l3)] [] h else (if ((gI h l0 (ix l3)) &&& 63) = 6 then mX (mE mtab d) KL_law 184 [some (.ref l0), some (.ref l1), some (.ref l2), some (.int l3)] [] h else (if ((gI h l0 (ix l3)) &&& 63) = 7 then mX (mE mtab d) KL_law 201 [some (.ref l0), some (.ref l1), some (.ref l2), some (.int l3)] [] h else (if ((gI h l0 (ix l3)) &&& 63) = 8 then mX (mE mtab d) KL_law 218 [some (.ref l0), some (.ref l1), some (.ref l2), some (.int l3)] [] h else (if ((gI h l0 (ix l3)) &&& 63) = 9 then mX (mE mtab d) KL_law 253 [some (.ref l0), some (.ref l1), some (.ref l2), some (.int l3)] [] h else (if ((gI h l0 (ix l3)) &&& 63) = 10 then mX (mE mtab d) KL_law 316 [some (.ref l0), some (.ref l1), some (.ref l2), some (.int l3)] [] h else (if ((gI h l0 (ix l3)) &&& 63) = 11 then mX (mE mtab d) KL_law 343 [some (.ref l0), some (.ref l1), some (.ref l2), some (.int l3)] [] h else (if ((gI h l0 (ix l3)) &&& 63) = 12 then mX (mE mtab d) KL_law 360 [some (.ref l0), some (.ref l1), some (.ref l2), some (.int l3)] [] h else (if ((gI h l0 (ix l3)) &&& 63) = 13 then mX (mE mtab d) KL_law 377 [some (.ref l0), some (.ref l1), some (.ref l2), some (.int l3)] [] h else (if ((gI h l0 (ix l3)) &&& 63) = 14 then mX (mE mtab d) KL_law 404 [some (.ref l0), some (.ref l1), some (.ref l2), some (.int l3)] [] h else (if ((gI h l0 (ix l3)) &&& 63) = 15 then mX (mE mtab d) KL_law 411 [some (.ref l0), some (.ref l1), some (.ref l2), some (.int l3)] [] h else (if ((gI h l0 (ix l3)) &&& 63) = 16 then mX (mE mtab d) KL_law 438 [some (.ref l0), some (.ref l1), some (.ref l2), some (.int l3)] [] h else (if ((gI h l0 (ix l3)) &&& 63) = 17 then mX (mE mtab d) KL_law 465 [some (.ref l0), some (.ref l1), some (.ref l2), some (.int l3)] [] h else (if ((gI h l0 (ix l3)) &&& 63) = 18 then mX (mE mtab d) KL_law 482 [some (.ref l0), some (.ref l1), some (.ref l2), some (.int l3)] [] h else (if ((gI h l0 (ix l3)) &&& 63) = 19 then mX (mE mtab d) KL_law 509 [some (.ref l0), some (.ref l1), some (.ref l2), some (.int l3)] [] h else (if ((gI h l0 (ix l3)) &&& 63) = 20 then mX (mE mtab d) KL_law 536 [some (.ref l0), some (.ref l1), some (.ref l2), some (.int l3)] [] h else (if ((gI h l0 (ix l3)) &&& 63) = 21 then mX (mE mtab d) KL_law 563 [some (.ref l0), some (.ref l1), some (.ref l2), some (.int l3)] [] h else (if ((gI h l0 (ix l3)) &&& 63) = 22 then mX (mE mtab d) KL_law 598 [some (.ref l0), some (.ref l1), some (.ref l2), some (.int l3)] [] h else (if ((gI h l0 (ix l3)) &&& 63) = 23 then mX (mE mtab d) KL_law 623 [some (.ref l0), some (.ref l1), some (.ref l2), some (.int l3)] [] h else (if ((gI h l0 (ix l3)) &&& 63) = 24 then mX (mE mtab d) KL_law 648 [some (.ref l0), some (.ref l1), some (.ref l2), some (.int l3)] [] h else (if ((gI h l0 (ix l3)) &&& 63) = 25 then mX (mE mtab d) KL_law 665 [some (.ref l0), some (.ref l1), some (.ref l2), some (.int l3)] [] h else (if ((gI h l0 (ix l3)) &&& 63) = 26 then mX (mE mtab d) KL_law 692 [some (.ref l0), some (.ref l1), some (.ref l2), some (.int l3)] [] h else (if ((gI h l0 (ix l3)) &&& 63) = 27 then mX (mE mtab d) KL_law 717 [some (.ref l0), some (.ref l1), some (.ref l2), some (.int l3)] [] h else (if ((gI h l0 (ix l3)) &&& 63) = 28 then mX (mE mtab d) KL_law 725 [some (.ref l0), some (.ref l1), some (.ref l2), some (.int l3)] [] h else (if ((gI h l0 (ix l3)) &&& 63) = 29 then mX (mE mtab d) KL_law 742 [some (.ref l0), some (.ref l1), some (.ref l2), some (.int l3)] [] h else (if ((gI h l0 (ix l3)) &&& 63) = 30 then mX (mE mtab d) KL_law 777 [some (.ref l0), some (.ref l1), some (.ref l2), some (.int l3)] [] h else (if ((gI h l0 (ix l3)) &&& 63) = 31 then mX (mE mtab d) KL_law 812 [some (.ref l0), some (.ref l1), some (.ref l2), some (.int l3)] [] h else (if ((gI h l0 (ix l3)) &&& 63) = 32 then mX (mE mtab d) KL_law 829 [some (.ref l0), some (.ref l1), some (.ref l2), some (.int l3)] [] h else (if ((gI h l0 (ix l3)) &&& 63) = 33 then mX (mE mtab d) KL_law 846 [some (.ref l0), some (.ref l1), some (.ref l2), some (.int l3)] [] h else (if ((gI h l0 (ix l3)) &&& 63) = 34 then mX (mE mtab d) KL_law 871 [some (.ref l0), some (.ref l1), some (.ref l2), some (.int l3)] [] h else (if ((gI h l0 (ix l3)) &&& 63) = 35 then mX (mE mtab d) KL_law 888 [some (.ref l0), some (.ref l1), some (.ref l2), some (.int l3)] [] h else (if ((gI h l0 (ix l3)) &&& 63) = 36 then mX (mE mtab d) KL_law 915 [some (.ref l0), some (.ref l1), some (.ref l2), some (.int l3)] [] h else (if ((gI h l0 (ix l3)) &&& 63) = 37 then mX (mE mtab d) KL_law 922 [some (.ref l0), some (.ref l1), some (.ref l2), some (.int l3)] [] h else (if ((gI h l0 (ix l3)) &&& 63) = 38 then mX (mE mtab d) KL_law 939 [some (.ref l0), some (.ref l1), some (.ref l2), some (.int l3)] [] h else (if ((gI h l0 (ix l3)) &&& 63) = 39 then mX (mE mtab d) KL_law 946 [some (.ref l0), some (.ref l1), some (.ref l2), some (.int l3)] [] h else (if ((gI h l0 (ix l3)) &&& 63) = 40 then mX (mE mtab d) KL_law 953 [some (.ref l0), some (.ref l1), some (.ref l2), some (.int l3)] [] h else (if ((gI h l0 (ix l3)) &&& 63) = 41 then mX (mE mtab d) KL_law 960 [some (.ref l0), some (.ref l1), some (.ref l2), some (.int l3)] [] h else (if ((gI h l0 (ix l3)) &&& 63) = 42 then mX (mE mtab d) KL_law 977 [some (.ref l0), some (.ref l1), some (.ref l2), some (.int l3)] [] h else (if ((gI h l0 (ix l3)) &&& 63) = 43 then mX (mE mtab d) KL_law 984 [some (.ref l0), some (.ref l1), some (.ref l2), some (.int l3)] [] h else (if ((gI h l0 (ix l3)) &&& 63) = 44 then mX (mE mtab d) KL_law 991 [some (.ref l0), some (.ref l1), some (.ref l2), some (.int l3)] [] h else mX (mE mtab d) KL_law 1008 [some (.ref l0), some (.ref l1), some (.ref l2), some (.int l3)] [] h)))))))))))))))))))))))))))))))))))))))))))))) else some (.int 1, h))) := by
  refine mX_to 2 (k' := 12) (ls' := [some (.ref l0), some (.ref l1), some (.ref l2), some (.int l3)]) (st' := [.ref l0, .int l3]) (h' := h) rfl ?_
  refine mX_ck (k' := 13) (ls' := [some (.ref l0), some (.ref l1), some (.ref l2), some (.int l3)]) (st' := [.int (nI (ln h l0)), .int l3]) (h' := h) rfl ?_
  refine mX_to 2 (k' := 15) (ls' := [some (.ref l0), some (.ref l1), some (.ref l2), some (.int l3)]) (st' := [.int ((nI (ln h l0)) - 6), .int l3]) (h' := h) rfl ?_
  refine mX_br (t := 16) (f := 1010) (ls' := [some (.ref l0), some (.ref l1), some (.ref l2), some (.int l3)]) (st' := []) (h' := h) rfl ?_ ?_
  · refine mX_to 2 (k' := 18) (ls' := [some (.ref l0), some (.ref l1), some (.ref l2), some (.int l3)]) (st' := [.int l3, .ref l0]) (h' := h) rfl ?_
    refine mX_ck (k' := 19) (ls' := [some (.ref l0), some (.ref l1), some (.ref l2), some (.int l3)]) (st' := [.int (gI h l0 (ix l3))]) (h' := h) rfl ?_
    refine mX_to 2 (k' := 21) (ls' := [some (.ref l0), some (.ref l1), some (.ref l2), some (.int l3)]) (st' := [.int ((gI h l0 (ix l3)) &&& 63)]) (h' := h) rfl ?_
    refine mX_sw (x := ((gI h l0 (ix l3)) &&& 63)) (t := 1008) (sw := [(0, 22), (1, 49), (2, 76), (3, 103), (4, 160), (5, 177), (6, 184), (7, 201), (8, 218), (9, 253), (10, 316), (11, 343), (12, 360), (13, 377), (14, 404), (15, 411), (16, 438), (17, 465), (18, 482), (19, 509), (20, 536), (21, 563), (22, 598), (23, 623), (24, 648), (25, 665), (26, 692), (27, 717), (28, 725), (29, 742), (30, 777), (31, 812), (32, 829), (33, 846), (34, 871), (35, 888), (36, 915), (37, 922), (38, 939), (39, 946), (40, 953), (41, 960), (42, 977), (43, 984), (44, 991)]) (ls' := [some (.ref l0), some (.ref l1), some (.ref l2), some (.int l3)]) (st' := []) (h' := h) rfl ?_
    refine msw_cons ?_ ?_
    · rfl
    refine msw_cons ?_ ?_
    · rfl
    refine msw_cons ?_ ?_
    · rfl
    refine msw_cons ?_ ?_
    · rfl
    refine msw_cons ?_ ?_
    · rfl
    refine msw_cons ?_ ?_
    · rfl
    refine msw_cons ?_ ?_
    · rfl
    refine msw_cons ?_ ?_
    · rfl
    refine msw_cons ?_ ?_
    · rfl
    refine msw_cons ?_ ?_
    · rfl
    refine msw_cons ?_ ?_
    · rfl
    refine msw_cons ?_ ?_
    · rfl
    refine msw_cons ?_ ?_
    · rfl
    refine msw_cons ?_ ?_
    · rfl
    refine msw_cons ?_ ?_
    · rfl
    refine msw_cons ?_ ?_
    · rfl
    refine msw_cons ?_ ?_
    · rfl
    refine msw_cons ?_ ?_
    · rfl
    refine msw_cons ?_ ?_
    · rfl
    refine msw_cons ?_ ?_
    · rfl
    refine msw_cons ?_ ?_
    · rfl
    refine msw_cons ?_ ?_
    · rfl
    refine msw_cons ?_ ?_
    · rfl
    refine msw_cons ?_ ?_
    · rfl
    refine msw_cons ?_ ?_
    · rfl
    refine msw_cons ?_ ?_
    · rfl
    refine msw_cons ?_ ?_
    · rfl
    refine msw_cons ?_ ?_
    · rfl
    refine msw_cons ?_ ?_
    · rfl
    refine msw_cons ?_ ?_
    · rfl
    refine msw_cons ?_ ?_
    · rfl
    refine msw_cons ?_ ?_
    · rfl
    refine msw_cons ?_ ?_
    · rfl
    refine msw_cons ?_ ?_
    · rfl
    refine msw_cons ?_ ?_
    · rfl
    refine msw_cons ?_ ?_
    · rfl
    refine msw_cons ?_ ?_
    · rfl
    refine msw_cons ?_ ?_
    · rfl
    refine msw_cons ?_ ?_
    · rfl
    refine msw_cons ?_ ?_
    · rfl
    refine msw_cons ?_ ?_
    · rfl
    refine msw_cons ?_ ?_
    · rfl
    refine msw_cons ?_ ?_
    · rfl
    refine msw_cons ?_ ?_
    · rfl
    refine msw_cons ?_ ?_
    · rfl
    refine msw_nil ?_
    rfl
  · refine mX_to 1 (k' := 1011) (ls' := [some (.ref l0), some (.ref l1), some (.ref l2), some (.int l3)]) (st' := [.int 1]) (h' := h) rfl ?_
    exact mX_retb (by decide) rfl
set_option maxRecDepth 100000 in
theorem D_L_law_22 (d : Nat) (h : MH) (l0 : Nat) (l1 : Nat) (l2 : Nat) (l3 : Int32) : mX (mE mtab d) KL_law 22 [some (.ref l0), some (.ref l1), some (.ref l2), some (.int l3)] [] h = ck ((kd h l0 = 20 ∨ kd h l0 = 24) ∧ ib (l3 + 1) (ln h l0)) (ck ((kd h l0 = 20 ∨ kd h l0 = 24) ∧ ib (l3 + 2) (ln h l0)) (ck (kd h l1 = 11) (cI (mE mtab d 13 [.ref l1, .int (gI h l0 (ix (l3 + 1))), .int (gI h l0 (ix (l3 + 2)))] h) (fun x8 h7 => ck ((kd h7 l0 = 20 ∨ kd h7 l0 = 24) ∧ ib (l3 + 1) (ln h7 l0)) (ck ((kd h7 l0 = 20 ∨ kd h7 l0 = 24) ∧ ib (l3 + 2) (ln h7 l0)) (ck (kd h7 l2 = 12) (cI (mE mtab d 16 [.ref l2, .int (gI h7 l0 (ix (l3 + 1))), .int (gI h7 l0 (ix (l3 + 2)))] h7) (fun x10 h9 => (if x8 = x10 then mX (mE mtab d) KL_law 1008 [some (.ref l0), some (.ref l1), some (.ref l2), some (.int l3)] [] h9 else some (.int 0, h9)))))))))) := by
  refine mX_to 5 (k' := 27) (ls' := [some (.ref l0), some (.ref l1), some (.ref l2), some (.int l3)]) (st' := [.int (l3 + 1), .ref l0, .ref l1]) (h' := h) rfl ?_
  refine mX_ck (k' := 28) (ls' := [some (.ref l0), some (.ref l1), some (.ref l2), some (.int l3)]) (st' := [.int (gI h l0 (ix (l3 + 1))), .ref l1]) (h' := h) rfl ?_
  refine mX_to 4 (k' := 32) (ls' := [some (.ref l0), some (.ref l1), some (.ref l2), some (.int l3)]) (st' := [.int (l3 + 2), .ref l0, .int (gI h l0 (ix (l3 + 1))), .ref l1]) (h' := h) rfl ?_
  refine mX_ck (k' := 33) (ls' := [some (.ref l0), some (.ref l1), some (.ref l2), some (.int l3)]) (st' := [.int (gI h l0 (ix (l3 + 2))), .int (gI h l0 (ix (l3 + 1))), .ref l1]) (h' := h) rfl ?_
  refine mX_ckc (m := mcl (mE mtab d 13 [.ref l1, .int (gI h l0 (ix (l3 + 1))), .int (gI h l0 (ix (l3 + 2)))] h) 1 34 [some (.ref l0), some (.ref l1), some (.ref l2), some (.int l3)] []) rfl ?_
  refine mk_cI ?_
  intro x8 h7
  refine mX_to 5 (k' := 39) (ls' := [some (.ref l0), some (.ref l1), some (.ref l2), some (.int l3)]) (st' := [.int (l3 + 1), .ref l0, .ref l2, .int x8]) (h' := h7) rfl ?_
  refine mX_ck (k' := 40) (ls' := [some (.ref l0), some (.ref l1), some (.ref l2), some (.int l3)]) (st' := [.int (gI h7 l0 (ix (l3 + 1))), .ref l2, .int x8]) (h' := h7) rfl ?_
  refine mX_to 4 (k' := 44) (ls' := [some (.ref l0), some (.ref l1), some (.ref l2), some (.int l3)]) (st' := [.int (l3 + 2), .ref l0, .int (gI h7 l0 (ix (l3 + 1))), .ref l2, .int x8]) (h' := h7) rfl ?_
  refine mX_ck (k' := 45) (ls' := [some (.ref l0), some (.ref l1), some (.ref l2), some (.int l3)]) (st' := [.int (gI h7 l0 (ix (l3 + 2))), .int (gI h7 l0 (ix (l3 + 1))), .ref l2, .int x8]) (h' := h7) rfl ?_
  refine mX_ckc (m := mcl (mE mtab d 16 [.ref l2, .int (gI h7 l0 (ix (l3 + 1))), .int (gI h7 l0 (ix (l3 + 2)))] h7) 1 46 [some (.ref l0), some (.ref l1), some (.ref l2), some (.int l3)] [.int x8]) rfl ?_
  refine mk_cI ?_
  intro x10 h9
  refine mX_br (t := 1008) (f := 47) (ls' := [some (.ref l0), some (.ref l1), some (.ref l2), some (.int l3)]) (st' := []) (h' := h9) rfl ?_ ?_
  · rfl
  · refine mX_to 1 (k' := 48) (ls' := [some (.ref l0), some (.ref l1), some (.ref l2), some (.int l3)]) (st' := [.int 0]) (h' := h9) rfl ?_
    exact mX_retb (by decide) rfl
set_option maxRecDepth 100000 in
theorem D_L_law_49 (d : Nat) (h : MH) (l0 : Nat) (l1 : Nat) (l2 : Nat) (l3 : Int32) : mX (mE mtab d) KL_law 49 [some (.ref l0), some (.ref l1), some (.ref l2), some (.int l3)] [] h = ck ((kd h l0 = 20 ∨ kd h l0 = 24) ∧ ib (l3 + 1) (ln h l0)) (ck ((kd h l0 = 20 ∨ kd h l0 = 24) ∧ ib (l3 + 2) (ln h l0)) (ck (kd h l1 = 11) (cI (mE mtab d 19 [.ref l1, .int (gI h l0 (ix (l3 + 1))), .int (gI h l0 (ix (l3 + 2)))] h) (fun x12 h11 => ck ((kd h11 l0 = 20 ∨ kd h11 l0 = 24) ∧ ib (l3 + 1) (ln h11 l0)) (ck ((kd h11 l0 = 20 ∨ kd h11 l0 = 24) ∧ ib (l3 + 2) (ln h11 l0)) (ck (kd h11 l2 = 12) (cI (mE mtab d 21 [.ref l2, .int (gI h11 l0 (ix (l3 + 1))), .int (gI h11 l0 (ix (l3 + 2)))] h11) (fun x14 h13 => (if x12 = x14 then mX (mE mtab d) KL_law 1008 [some (.ref l0), some (.ref l1), some (.ref l2), some (.int l3)] [] h13 else some (.int 0, h13)))))))))) := by
  refine mX_to 5 (k' := 54) (ls' := [some (.ref l0), some (.ref l1), some (.ref l2), some (.int l3)]) (st' := [.int (l3 + 1), .ref l0, .ref l1]) (h' := h) rfl ?_
  refine mX_ck (k' := 55) (ls' := [some (.ref l0), some (.ref l1), some (.ref l2), some (.int l3)]) (st' := [.int (gI h l0 (ix (l3 + 1))), .ref l1]) (h' := h) rfl ?_
  refine mX_to 4 (k' := 59) (ls' := [some (.ref l0), some (.ref l1), some (.ref l2), some (.int l3)]) (st' := [.int (l3 + 2), .ref l0, .int (gI h l0 (ix (l3 + 1))), .ref l1]) (h' := h) rfl ?_
  refine mX_ck (k' := 60) (ls' := [some (.ref l0), some (.ref l1), some (.ref l2), some (.int l3)]) (st' := [.int (gI h l0 (ix (l3 + 2))), .int (gI h l0 (ix (l3 + 1))), .ref l1]) (h' := h) rfl ?_
  refine mX_ckc (m := mcl (mE mtab d 19 [.ref l1, .int (gI h l0 (ix (l3 + 1))), .int (gI h l0 (ix (l3 + 2)))] h) 1 61 [some (.ref l0), some (.ref l1), some (.ref l2), some (.int l3)] []) rfl ?_
  refine mk_cI ?_
  intro x12 h11
  refine mX_to 5 (k' := 66) (ls' := [some (.ref l0), some (.ref l1), some (.ref l2), some (.int l3)]) (st' := [.int (l3 + 1), .ref l0, .ref l2, .int x12]) (h' := h11) rfl ?_
  refine mX_ck (k' := 67) (ls' := [some (.ref l0), some (.ref l1), some (.ref l2), some (.int l3)]) (st' := [.int (gI h11 l0 (ix (l3 + 1))), .ref l2, .int x12]) (h' := h11) rfl ?_
  refine mX_to 4 (k' := 71) (ls' := [some (.ref l0), some (.ref l1), some (.ref l2), some (.int l3)]) (st' := [.int (l3 + 2), .ref l0, .int (gI h11 l0 (ix (l3 + 1))), .ref l2, .int x12]) (h' := h11) rfl ?_
  refine mX_ck (k' := 72) (ls' := [some (.ref l0), some (.ref l1), some (.ref l2), some (.int l3)]) (st' := [.int (gI h11 l0 (ix (l3 + 2))), .int (gI h11 l0 (ix (l3 + 1))), .ref l2, .int x12]) (h' := h11) rfl ?_
  refine mX_ckc (m := mcl (mE mtab d 21 [.ref l2, .int (gI h11 l0 (ix (l3 + 1))), .int (gI h11 l0 (ix (l3 + 2)))] h11) 1 73 [some (.ref l0), some (.ref l1), some (.ref l2), some (.int l3)] [.int x12]) rfl ?_
  refine mk_cI ?_
  intro x14 h13
  refine mX_br (t := 1008) (f := 74) (ls' := [some (.ref l0), some (.ref l1), some (.ref l2), some (.int l3)]) (st' := []) (h' := h13) rfl ?_ ?_
  · rfl
  · refine mX_to 1 (k' := 75) (ls' := [some (.ref l0), some (.ref l1), some (.ref l2), some (.int l3)]) (st' := [.int 0]) (h' := h13) rfl ?_
    exact mX_retb (by decide) rfl
set_option maxRecDepth 100000 in
theorem D_L_law_76 (d : Nat) (h : MH) (l0 : Nat) (l1 : Nat) (l2 : Nat) (l3 : Int32) : mX (mE mtab d) KL_law 76 [some (.ref l0), some (.ref l1), some (.ref l2), some (.int l3)] [] h = ck ((kd h l0 = 20 ∨ kd h l0 = 24) ∧ ib (l3 + 1) (ln h l0)) (ck ((kd h l0 = 20 ∨ kd h l0 = 24) ∧ ib (l3 + 2) (ln h l0)) (ck (kd h l1 = 11) (cI (mE mtab d 23 [.ref l1, .int (gI h l0 (ix (l3 + 1))), .int (gI h l0 (ix (l3 + 2)))] h) (fun x16 h15 => ck ((kd h15 l0 = 20 ∨ kd h15 l0 = 24) ∧ ib (l3 + 1) (ln h15 l0)) (ck ((kd h15 l0 = 20 ∨ kd h15 l0 = 24) ∧ ib (l3 + 2) (ln h15 l0)) (ck (kd h15 l2 = 12) (cI (mE mtab d 24 [.ref l2, .int (gI h15 l0 (ix (l3 + 1))), .int (gI h15 l0 (ix (l3 + 2)))] h15) (fun x18 h17 => (if x16 = x18 then mX (mE mtab d) KL_law 1008 [some (.ref l0), some (.ref l1), some (.ref l2), some (.int l3)] [] h17 else some (.int 0, h17)))))))))) := by
  refine mX_to 5 (k' := 81) (ls' := [some (.ref l0), some (.ref l1), some (.ref l2), some (.int l3)]) (st' := [.int (l3 + 1), .ref l0, .ref l1]) (h' := h) rfl ?_
  refine mX_ck (k' := 82) (ls' := [some (.ref l0), some (.ref l1), some (.ref l2), some (.int l3)]) (st' := [.int (gI h l0 (ix (l3 + 1))), .ref l1]) (h' := h) rfl ?_
  refine mX_to 4 (k' := 86) (ls' := [some (.ref l0), some (.ref l1), some (.ref l2), some (.int l3)]) (st' := [.int (l3 + 2), .ref l0, .int (gI h l0 (ix (l3 + 1))), .ref l1]) (h' := h) rfl ?_
  refine mX_ck (k' := 87) (ls' := [some (.ref l0), some (.ref l1), some (.ref l2), some (.int l3)]) (st' := [.int (gI h l0 (ix (l3 + 2))), .int (gI h l0 (ix (l3 + 1))), .ref l1]) (h' := h) rfl ?_
  refine mX_ckc (m := mcl (mE mtab d 23 [.ref l1, .int (gI h l0 (ix (l3 + 1))), .int (gI h l0 (ix (l3 + 2)))] h) 1 88 [some (.ref l0), some (.ref l1), some (.ref l2), some (.int l3)] []) rfl ?_
  refine mk_cI ?_
  intro x16 h15
  refine mX_to 5 (k' := 93) (ls' := [some (.ref l0), some (.ref l1), some (.ref l2), some (.int l3)]) (st' := [.int (l3 + 1), .ref l0, .ref l2, .int x16]) (h' := h15) rfl ?_
  refine mX_ck (k' := 94) (ls' := [some (.ref l0), some (.ref l1), some (.ref l2), some (.int l3)]) (st' := [.int (gI h15 l0 (ix (l3 + 1))), .ref l2, .int x16]) (h' := h15) rfl ?_
  refine mX_to 4 (k' := 98) (ls' := [some (.ref l0), some (.ref l1), some (.ref l2), some (.int l3)]) (st' := [.int (l3 + 2), .ref l0, .int (gI h15 l0 (ix (l3 + 1))), .ref l2, .int x16]) (h' := h15) rfl ?_
  refine mX_ck (k' := 99) (ls' := [some (.ref l0), some (.ref l1), some (.ref l2), some (.int l3)]) (st' := [.int (gI h15 l0 (ix (l3 + 2))), .int (gI h15 l0 (ix (l3 + 1))), .ref l2, .int x16]) (h' := h15) rfl ?_
  refine mX_ckc (m := mcl (mE mtab d 24 [.ref l2, .int (gI h15 l0 (ix (l3 + 1))), .int (gI h15 l0 (ix (l3 + 2)))] h15) 1 100 [some (.ref l0), some (.ref l1), some (.ref l2), some (.int l3)] [.int x16]) rfl ?_
  refine mk_cI ?_
  intro x18 h17
  refine mX_br (t := 1008) (f := 101) (ls' := [some (.ref l0), some (.ref l1), some (.ref l2), some (.int l3)]) (st' := []) (h' := h17) rfl ?_ ?_
  · rfl
  · refine mX_to 1 (k' := 102) (ls' := [some (.ref l0), some (.ref l1), some (.ref l2), some (.int l3)]) (st' := [.int 0]) (h' := h17) rfl ?_
    exact mX_retb (by decide) rfl
set_option maxRecDepth 100000 in
theorem D_L_law_103 (d : Nat) (h : MH) (l0 : Nat) (l1 : Nat) (l2 : Nat) (l3 : Int32) : mX (mE mtab d) KL_law 103 [some (.ref l0), some (.ref l1), some (.ref l2), some (.int l3)] [] h = ck ((kd h l0 = 20 ∨ kd h l0 = 24) ∧ ib (l3 + 1) (ln h l0)) (ck ((kd h l0 = 20 ∨ kd h l0 = 24) ∧ ib (l3 + 2) (ln h l0)) (ck ((kd h l0 = 20 ∨ kd h l0 = 24) ∧ ib (l3 + 3) (ln h l0)) (ck ((kd h l0 = 20 ∨ kd h l0 = 24) ∧ ib (l3 + 4) (ln h l0)) (ck ((kd h l0 = 20 ∨ kd h l0 = 24) ∧ ib (l3 + 5) (ln h l0)) (ck (kd h l1 = 11) (cI (mE mtab d 26 [.ref l1, .int (gI h l0 (ix (l3 + 1))), .int (gI h l0 (ix (l3 + 2))), .int (gI h l0 (ix (l3 + 3))), .int (gI h l0 (ix (l3 + 4))), .int (gI h l0 (ix (l3 + 5)))] h) (fun x20 h19 => ck ((kd h19 l0 = 20 ∨ kd h19 l0 = 24) ∧ ib (l3 + 1) (ln h19 l0)) (ck ((kd h19 l0 = 20 ∨ kd h19 l0 = 24) ∧ ib (l3 + 2) (ln h19 l0)) (ck ((kd h19 l0 = 20 ∨ kd h19 l0 = 24) ∧ ib (l3 + 3) (ln h19 l0)) (ck ((kd h19 l0 = 20 ∨ kd h19 l0 = 24) ∧ ib (l3 + 4) (ln h19 l0)) (ck ((kd h19 l0 = 20 ∨ kd h19 l0 = 24) ∧ ib (l3 + 5) (ln h19 l0)) (ck (kd h19 l2 = 12) (cI (mE mtab d 28 [.ref l2, .int (gI h19 l0 (ix (l3 + 1))), .int (gI h19 l0 (ix (l3 + 2))), .int (gI h19 l0 (ix (l3 + 3))), .int (gI h19 l0 (ix (l3 + 4))), .int (gI h19 l0 (ix (l3 + 5)))] h19) (fun x22 h21 => (if x20 = x22 then mX (mE mtab d) KL_law 1008 [some (.ref l0), some (.ref l1), some (.ref l2), some (.int l3)] [] h21 else some (.int 0, h21)))))))))))))))) := by
  refine mX_to 5 (k' := 108) (ls' := [some (.ref l0), some (.ref l1), some (.ref l2), some (.int l3)]) (st' := [.int (l3 + 1), .ref l0, .ref l1]) (h' := h) rfl ?_
  refine mX_ck (k' := 109) (ls' := [some (.ref l0), some (.ref l1), some (.ref l2), some (.int l3)]) (st' := [.int (gI h l0 (ix (l3 + 1))), .ref l1]) (h' := h) rfl ?_
  refine mX_to 4 (k' := 113) (ls' := [some (.ref l0), some (.ref l1), some (.ref l2), some (.int l3)]) (st' := [.int (l3 + 2), .ref l0, .int (gI h l0 (ix (l3 + 1))), .ref l1]) (h' := h) rfl ?_
  refine mX_ck (k' := 114) (ls' := [some (.ref l0), some (.ref l1), some (.ref l2), some (.int l3)]) (st' := [.int (gI h l0 (ix (l3 + 2))), .int (gI h l0 (ix (l3 + 1))), .ref l1]) (h' := h) rfl ?_
  refine mX_to 4 (k' := 118) (ls' := [some (.ref l0), some (.ref l1), some (.ref l2), some (.int l3)]) (st' := [.int (l3 + 3), .ref l0, .int (gI h l0 (ix (l3 + 2))), .int (gI h l0 (ix (l3 + 1))), .ref l1]) (h' := h) rfl ?_
  refine mX_ck (k' := 119) (ls' := [some (.ref l0), some (.ref l1), some (.ref l2), some (.int l3)]) (st' := [.int (gI h l0 (ix (l3 + 3))), .int (gI h l0 (ix (l3 + 2))), .int (gI h l0 (ix (l3 + 1))), .ref l1]) (h' := h) rfl ?_
  refine mX_to 4 (k' := 123) (ls' := [some (.ref l0), some (.ref l1), some (.ref l2), some (.int l3)]) (st' := [.int (l3 + 4), .ref l0, .int (gI h l0 (ix (l3 + 3))), .int (gI h l0 (ix (l3 + 2))), .int (gI h l0 (ix (l3 + 1))), .ref l1]) (h' := h) rfl ?_
  refine mX_ck (k' := 124) (ls' := [some (.ref l0), some (.ref l1), some (.ref l2), some (.int l3)]) (st' := [.int (gI h l0 (ix (l3 + 4))), .int (gI h l0 (ix (l3 + 3))), .int (gI h l0 (ix (l3 + 2))), .int (gI h l0 (ix (l3 + 1))), .ref l1]) (h' := h) rfl ?_
  refine mX_to 4 (k' := 128) (ls' := [some (.ref l0), some (.ref l1), some (.ref l2), some (.int l3)]) (st' := [.int (l3 + 5), .ref l0, .int (gI h l0 (ix (l3 + 4))), .int (gI h l0 (ix (l3 + 3))), .int (gI h l0 (ix (l3 + 2))), .int (gI h l0 (ix (l3 + 1))), .ref l1]) (h' := h) rfl ?_
  refine mX_ck (k' := 129) (ls' := [some (.ref l0), some (.ref l1), some (.ref l2), some (.int l3)]) (st' := [.int (gI h l0 (ix (l3 + 5))), .int (gI h l0 (ix (l3 + 4))), .int (gI h l0 (ix (l3 + 3))), .int (gI h l0 (ix (l3 + 2))), .int (gI h l0 (ix (l3 + 1))), .ref l1]) (h' := h) rfl ?_
  refine mX_ckc (m := mcl (mE mtab d 26 [.ref l1, .int (gI h l0 (ix (l3 + 1))), .int (gI h l0 (ix (l3 + 2))), .int (gI h l0 (ix (l3 + 3))), .int (gI h l0 (ix (l3 + 4))), .int (gI h l0 (ix (l3 + 5)))] h) 1 130 [some (.ref l0), some (.ref l1), some (.ref l2), some (.int l3)] []) rfl ?_
  refine mk_cI ?_
  intro x20 h19
  refine mX_to 5 (k' := 135) (ls' := [some (.ref l0), some (.ref l1), some (.ref l2), some (.int l3)]) (st' := [.int (l3 + 1), .ref l0, .ref l2, .int x20]) (h' := h19) rfl ?_
  refine mX_ck (k' := 136) (ls' := [some (.ref l0), some (.ref l1), some (.ref l2), some (.int l3)]) (st' := [.int (gI h19 l0 (ix (l3 + 1))), .ref l2, .int x20]) (h' := h19) rfl ?_
  refine mX_to 4 (k' := 140) (ls' := [some (.ref l0), some (.ref l1), some (.ref l2), some (.int l3)]) (st' := [.int (l3 + 2), .ref l0, .int (gI h19 l0 (ix (l3 + 1))), .ref l2, .int x20]) (h' := h19) rfl ?_
  refine mX_ck (k' := 141) (ls' := [some (.ref l0), some (.ref l1), some (.ref l2), some (.int l3)]) (st' := [.int (gI h19 l0 (ix (l3 + 2))), .int (gI h19 l0 (ix (l3 + 1))), .ref l2, .int x20]) (h' := h19) rfl ?_
  refine mX_to 4 (k' := 145) (ls' := [some (.ref l0), some (.ref l1), some (.ref l2), some (.int l3)]) (st' := [.int (l3 + 3), .ref l0, .int (gI h19 l0 (ix (l3 + 2))), .int (gI h19 l0 (ix (l3 + 1))), .ref l2, .int x20]) (h' := h19) rfl ?_
  refine mX_ck (k' := 146) (ls' := [some (.ref l0), some (.ref l1), some (.ref l2), some (.int l3)]) (st' := [.int (gI h19 l0 (ix (l3 + 3))), .int (gI h19 l0 (ix (l3 + 2))), .int (gI h19 l0 (ix (l3 + 1))), .ref l2, .int x20]) (h' := h19) rfl ?_
  refine mX_to 4 (k' := 150) (ls' := [some (.ref l0), some (.ref l1), some (.ref l2), some (.int l3)]) (st' := [.int (l3 + 4), .ref l0, .int (gI h19 l0 (ix (l3 + 3))), .int (gI h19 l0 (ix (l3 + 2))), .int (gI h19 l0 (ix (l3 + 1))), .ref l2, .int x20]) (h' := h19) rfl ?_
  refine mX_ck (k' := 151) (ls' := [some (.ref l0), some (.ref l1), some (.ref l2), some (.int l3)]) (st' := [.int (gI h19 l0 (ix (l3 + 4))), .int (gI h19 l0 (ix (l3 + 3))), .int (gI h19 l0 (ix (l3 + 2))), .int (gI h19 l0 (ix (l3 + 1))), .ref l2, .int x20]) (h' := h19) rfl ?_
  refine mX_to 4 (k' := 155) (ls' := [some (.ref l0), some (.ref l1), some (.ref l2), some (.int l3)]) (st' := [.int (l3 + 5), .ref l0, .int (gI h19 l0 (ix (l3 + 4))), .int (gI h19 l0 (ix (l3 + 3))), .int (gI h19 l0 (ix (l3 + 2))), .int (gI h19 l0 (ix (l3 + 1))), .ref l2, .int x20]) (h' := h19) rfl ?_
  refine mX_ck (k' := 156) (ls' := [some (.ref l0), some (.ref l1), some (.ref l2), some (.int l3)]) (st' := [.int (gI h19 l0 (ix (l3 + 5))), .int (gI h19 l0 (ix (l3 + 4))), .int (gI h19 l0 (ix (l3 + 3))), .int (gI h19 l0 (ix (l3 + 2))), .int (gI h19 l0 (ix (l3 + 1))), .ref l2, .int x20]) (h' := h19) rfl ?_
  refine mX_ckc (m := mcl (mE mtab d 28 [.ref l2, .int (gI h19 l0 (ix (l3 + 1))), .int (gI h19 l0 (ix (l3 + 2))), .int (gI h19 l0 (ix (l3 + 3))), .int (gI h19 l0 (ix (l3 + 4))), .int (gI h19 l0 (ix (l3 + 5)))] h19) 1 157 [some (.ref l0), some (.ref l1), some (.ref l2), some (.int l3)] [.int x20]) rfl ?_
  refine mk_cI ?_
  intro x22 h21
  refine mX_br (t := 1008) (f := 158) (ls' := [some (.ref l0), some (.ref l1), some (.ref l2), some (.int l3)]) (st' := []) (h' := h21) rfl ?_ ?_
  · rfl
  · refine mX_to 1 (k' := 159) (ls' := [some (.ref l0), some (.ref l1), some (.ref l2), some (.int l3)]) (st' := [.int 0]) (h' := h21) rfl ?_
    exact mX_retb (by decide) rfl
set_option maxRecDepth 100000 in
theorem D_L_law_160 (d : Nat) (h : MH) (l0 : Nat) (l1 : Nat) (l2 : Nat) (l3 : Int32) : mX (mE mtab d) KL_law 160 [some (.ref l0), some (.ref l1), some (.ref l2), some (.int l3)] [] h = ck ((kd h l0 = 20 ∨ kd h l0 = 24) ∧ ib (l3 + 1) (ln h l0)) (ck (kd h l1 = 11) (cI (mE mtab d 29 [.ref l1, .int (gI h l0 (ix (l3 + 1)))] h) (fun x24 h23 => ck ((kd h23 l0 = 20 ∨ kd h23 l0 = 24) ∧ ib (l3 + 1) (ln h23 l0)) (ck (kd h23 l2 = 12) (cI (mE mtab d 30 [.ref l2, .int (gI h23 l0 (ix (l3 + 1)))] h23) (fun x26 h25 => (if x24 = x26 then mX (mE mtab d) KL_law 1008 [some (.ref l0), some (.ref l1), some (.ref l2), some (.int l3)] [] h25 else some (.int 0, h25)))))))) := by
  refine mX_to 5 (k' := 165) (ls' := [some (.ref l0), some (.ref l1), some (.ref l2), some (.int l3)]) (st' := [.int (l3 + 1), .ref l0, .ref l1]) (h' := h) rfl ?_
  refine mX_ck (k' := 166) (ls' := [some (.ref l0), some (.ref l1), some (.ref l2), some (.int l3)]) (st' := [.int (gI h l0 (ix (l3 + 1))), .ref l1]) (h' := h) rfl ?_
  refine mX_ckc (m := mcl (mE mtab d 29 [.ref l1, .int (gI h l0 (ix (l3 + 1)))] h) 1 167 [some (.ref l0), some (.ref l1), some (.ref l2), some (.int l3)] []) rfl ?_
  refine mk_cI ?_
  intro x24 h23
  refine mX_to 5 (k' := 172) (ls' := [some (.ref l0), some (.ref l1), some (.ref l2), some (.int l3)]) (st' := [.int (l3 + 1), .ref l0, .ref l2, .int x24]) (h' := h23) rfl ?_
  refine mX_ck (k' := 173) (ls' := [some (.ref l0), some (.ref l1), some (.ref l2), some (.int l3)]) (st' := [.int (gI h23 l0 (ix (l3 + 1))), .ref l2, .int x24]) (h' := h23) rfl ?_
  refine mX_ckc (m := mcl (mE mtab d 30 [.ref l2, .int (gI h23 l0 (ix (l3 + 1)))] h23) 1 174 [some (.ref l0), some (.ref l1), some (.ref l2), some (.int l3)] [.int x24]) rfl ?_
  refine mk_cI ?_
  intro x26 h25
  refine mX_br (t := 1008) (f := 175) (ls' := [some (.ref l0), some (.ref l1), some (.ref l2), some (.int l3)]) (st' := []) (h' := h25) rfl ?_ ?_
  · rfl
  · refine mX_to 1 (k' := 176) (ls' := [some (.ref l0), some (.ref l1), some (.ref l2), some (.int l3)]) (st' := [.int 0]) (h' := h25) rfl ?_
    exact mX_retb (by decide) rfl
set_option maxRecDepth 100000 in
theorem D_L_law_177 (d : Nat) (h : MH) (l0 : Nat) (l1 : Nat) (l2 : Nat) (l3 : Int32) : mX (mE mtab d) KL_law 177 [some (.ref l0), some (.ref l1), some (.ref l2), some (.int l3)] [] h = ck (kd h l1 = 11) (cI (mE mtab d 95 [.ref l1] h) (fun x28 h27 => ck (kd h27 l2 = 12) (cI (mE mtab d 130 [.ref l2] h27) (fun x30 h29 => (if x28 = x30 then mX (mE mtab d) KL_law 1008 [some (.ref l0), some (.ref l1), some (.ref l2), some (.int l3)] [] h29 else some (.int 0, h29)))))) := by
  refine mX_to 1 (k' := 178) (ls' := [some (.ref l0), some (.ref l1), some (.ref l2), some (.int l3)]) (st' := [.ref l1]) (h' := h) rfl ?_
  refine mX_ckc (m := mcl (mE mtab d 95 [.ref l1] h) 1 179 [some (.ref l0), some (.ref l1), some (.ref l2), some (.int l3)] []) rfl ?_
  refine mk_cI ?_
  intro x28 h27
  refine mX_to 1 (k' := 180) (ls' := [some (.ref l0), some (.ref l1), some (.ref l2), some (.int l3)]) (st' := [.ref l2, .int x28]) (h' := h27) rfl ?_
  refine mX_ckc (m := mcl (mE mtab d 130 [.ref l2] h27) 1 181 [some (.ref l0), some (.ref l1), some (.ref l2), some (.int l3)] [.int x28]) rfl ?_
  refine mk_cI ?_
  intro x30 h29
  refine mX_br (t := 1008) (f := 182) (ls' := [some (.ref l0), some (.ref l1), some (.ref l2), some (.int l3)]) (st' := []) (h' := h29) rfl ?_ ?_
  · rfl
  · refine mX_to 1 (k' := 183) (ls' := [some (.ref l0), some (.ref l1), some (.ref l2), some (.int l3)]) (st' := [.int 0]) (h' := h29) rfl ?_
    exact mX_retb (by decide) rfl
set_option maxRecDepth 100000 in
theorem D_L_law_184 (d : Nat) (h : MH) (l0 : Nat) (l1 : Nat) (l2 : Nat) (l3 : Int32) : mX (mE mtab d) KL_law 184 [some (.ref l0), some (.ref l1), some (.ref l2), some (.int l3)] [] h = ck ((kd h l0 = 20 ∨ kd h l0 = 24) ∧ ib (l3 + 1) (ln h l0)) (ck (kd h l1 = 11) (cI (mE mtab d 131 [.ref l1, .int (gI h l0 (ix (l3 + 1)))] h) (fun x32 h31 => ck ((kd h31 l0 = 20 ∨ kd h31 l0 = 24) ∧ ib (l3 + 1) (ln h31 l0)) (ck (kd h31 l2 = 12) (cI (mE mtab d 132 [.ref l2, .int (gI h31 l0 (ix (l3 + 1)))] h31) (fun x34 h33 => (if x32 = x34 then mX (mE mtab d) KL_law 1008 [some (.ref l0), some (.ref l1), some (.ref l2), some (.int l3)] [] h33 else some (.int 0, h33)))))))) := by
  refine mX_to 5 (k' := 189) (ls' := [some (.ref l0), some (.ref l1), some (.ref l2), some (.int l3)]) (st' := [.int (l3 + 1), .ref l0, .ref l1]) (h' := h) rfl ?_
  refine mX_ck (k' := 190) (ls' := [some (.ref l0), some (.ref l1), some (.ref l2), some (.int l3)]) (st' := [.int (gI h l0 (ix (l3 + 1))), .ref l1]) (h' := h) rfl ?_
  refine mX_ckc (m := mcl (mE mtab d 131 [.ref l1, .int (gI h l0 (ix (l3 + 1)))] h) 1 191 [some (.ref l0), some (.ref l1), some (.ref l2), some (.int l3)] []) rfl ?_
  refine mk_cI ?_
  intro x32 h31
  refine mX_to 5 (k' := 196) (ls' := [some (.ref l0), some (.ref l1), some (.ref l2), some (.int l3)]) (st' := [.int (l3 + 1), .ref l0, .ref l2, .int x32]) (h' := h31) rfl ?_
  refine mX_ck (k' := 197) (ls' := [some (.ref l0), some (.ref l1), some (.ref l2), some (.int l3)]) (st' := [.int (gI h31 l0 (ix (l3 + 1))), .ref l2, .int x32]) (h' := h31) rfl ?_
  refine mX_ckc (m := mcl (mE mtab d 132 [.ref l2, .int (gI h31 l0 (ix (l3 + 1)))] h31) 1 198 [some (.ref l0), some (.ref l1), some (.ref l2), some (.int l3)] [.int x32]) rfl ?_
  refine mk_cI ?_
  intro x34 h33
  refine mX_br (t := 1008) (f := 199) (ls' := [some (.ref l0), some (.ref l1), some (.ref l2), some (.int l3)]) (st' := []) (h' := h33) rfl ?_ ?_
  · rfl
  · refine mX_to 1 (k' := 200) (ls' := [some (.ref l0), some (.ref l1), some (.ref l2), some (.int l3)]) (st' := [.int 0]) (h' := h33) rfl ?_
    exact mX_retb (by decide) rfl
set_option maxRecDepth 100000 in
theorem D_L_law_201 (d : Nat) (h : MH) (l0 : Nat) (l1 : Nat) (l2 : Nat) (l3 : Int32) : mX (mE mtab d) KL_law 201 [some (.ref l0), some (.ref l1), some (.ref l2), some (.int l3)] [] h = ck ((kd h l0 = 20 ∨ kd h l0 = 24) ∧ ib (l3 + 1) (ln h l0)) (ck (kd h l1 = 11) (cI (mE mtab d 135 [.ref l1, .int (gI h l0 (ix (l3 + 1)))] h) (fun x36 h35 => ck ((kd h35 l0 = 20 ∨ kd h35 l0 = 24) ∧ ib (l3 + 1) (ln h35 l0)) (ck (kd h35 l2 = 12) (cI (mE mtab d 136 [.ref l2, .int (gI h35 l0 (ix (l3 + 1)))] h35) (fun x38 h37 => (if x36 = x38 then mX (mE mtab d) KL_law 1008 [some (.ref l0), some (.ref l1), some (.ref l2), some (.int l3)] [] h37 else some (.int 0, h37)))))))) := by
  refine mX_to 5 (k' := 206) (ls' := [some (.ref l0), some (.ref l1), some (.ref l2), some (.int l3)]) (st' := [.int (l3 + 1), .ref l0, .ref l1]) (h' := h) rfl ?_
  refine mX_ck (k' := 207) (ls' := [some (.ref l0), some (.ref l1), some (.ref l2), some (.int l3)]) (st' := [.int (gI h l0 (ix (l3 + 1))), .ref l1]) (h' := h) rfl ?_
  refine mX_ckc (m := mcl (mE mtab d 135 [.ref l1, .int (gI h l0 (ix (l3 + 1)))] h) 1 208 [some (.ref l0), some (.ref l1), some (.ref l2), some (.int l3)] []) rfl ?_
  refine mk_cI ?_
  intro x36 h35
  refine mX_to 5 (k' := 213) (ls' := [some (.ref l0), some (.ref l1), some (.ref l2), some (.int l3)]) (st' := [.int (l3 + 1), .ref l0, .ref l2, .int x36]) (h' := h35) rfl ?_
  refine mX_ck (k' := 214) (ls' := [some (.ref l0), some (.ref l1), some (.ref l2), some (.int l3)]) (st' := [.int (gI h35 l0 (ix (l3 + 1))), .ref l2, .int x36]) (h' := h35) rfl ?_
  refine mX_ckc (m := mcl (mE mtab d 136 [.ref l2, .int (gI h35 l0 (ix (l3 + 1)))] h35) 1 215 [some (.ref l0), some (.ref l1), some (.ref l2), some (.int l3)] [.int x36]) rfl ?_
  refine mk_cI ?_
  intro x38 h37
  refine mX_br (t := 1008) (f := 216) (ls' := [some (.ref l0), some (.ref l1), some (.ref l2), some (.int l3)]) (st' := []) (h' := h37) rfl ?_ ?_
  · rfl
  · refine mX_to 1 (k' := 217) (ls' := [some (.ref l0), some (.ref l1), some (.ref l2), some (.int l3)]) (st' := [.int 0]) (h' := h37) rfl ?_
    exact mX_retb (by decide) rfl
set_option maxRecDepth 100000 in
theorem D_L_law_218 (d : Nat) (h : MH) (l0 : Nat) (l1 : Nat) (l2 : Nat) (l3 : Int32) : mX (mE mtab d) KL_law 218 [some (.ref l0), some (.ref l1), some (.ref l2), some (.int l3)] [] h = ck ((kd h l0 = 20 ∨ kd h l0 = 24) ∧ ib (l3 + 1) (ln h l0)) (ck ((kd h l0 = 20 ∨ kd h l0 = 24) ∧ ib (l3 + 2) (ln h l0)) ((if (gI h l0 (ix (l3 + 2))) = 0 then mX (mE mtab d) KL_law 233 [some (.ref l0), some (.ref l1), some (.ref l2), some (.int l3)] [.int 0, .int (gI h l0 (ix (l3 + 1))), .ref l1] h else mX (mE mtab d) KL_law 233 [some (.ref l0), some (.ref l1), some (.ref l2), some (.int l3)] [.int 1, .int (gI h l0 (ix (l3 + 1))), .ref l1] h))) := by
  refine mX_to 5 (k' := 223) (ls' := [some (.ref l0), some (.ref l1), some (.ref l2), some (.int l3)]) (st' := [.int (l3 + 1), .ref l0, .ref l1]) (h' := h) rfl ?_
  refine mX_ck (k' := 224) (ls' := [some (.ref l0), some (.ref l1), some (.ref l2), some (.int l3)]) (st' := [.int (gI h l0 (ix (l3 + 1))), .ref l1]) (h' := h) rfl ?_
  refine mX_to 4 (k' := 228) (ls' := [some (.ref l0), some (.ref l1), some (.ref l2), some (.int l3)]) (st' := [.int (l3 + 2), .ref l0, .int (gI h l0 (ix (l3 + 1))), .ref l1]) (h' := h) rfl ?_
  refine mX_ck (k' := 229) (ls' := [some (.ref l0), some (.ref l1), some (.ref l2), some (.int l3)]) (st' := [.int (gI h l0 (ix (l3 + 2))), .int (gI h l0 (ix (l3 + 1))), .ref l1]) (h' := h) rfl ?_
  refine mX_br (t := 232) (f := 230) (ls' := [some (.ref l0), some (.ref l1), some (.ref l2), some (.int l3)]) (st' := [.int (gI h l0 (ix (l3 + 1))), .ref l1]) (h' := h) rfl ?_ ?_
  · refine mX_to 1 (k' := 233) (ls' := [some (.ref l0), some (.ref l1), some (.ref l2), some (.int l3)]) (st' := [.int 0, .int (gI h l0 (ix (l3 + 1))), .ref l1]) (h' := h) rfl ?_
    rfl
  · refine mX_to 2 (k' := 233) (ls' := [some (.ref l0), some (.ref l1), some (.ref l2), some (.int l3)]) (st' := [.int 1, .int (gI h l0 (ix (l3 + 1))), .ref l1]) (h' := h) rfl ?_
    rfl
set_option maxRecDepth 100000 in
theorem D_L_law_253 (d : Nat) (h : MH) (l0 : Nat) (l1 : Nat) (l2 : Nat) (l3 : Int32) : mX (mE mtab d) KL_law 253 [some (.ref l0), some (.ref l1), some (.ref l2), some (.int l3)] [] h = ck ((kd h l0 = 20 ∨ kd h l0 = 24) ∧ ib (l3 + 1) (ln h l0)) (ck ((kd h l0 = 20 ∨ kd h l0 = 24) ∧ ib (l3 + 2) (ln h l0)) ((if (gI h l0 (ix (l3 + 2))) = 0 then mX (mE mtab d) KL_law 268 [some (.ref l0), some (.ref l1), some (.ref l2), some (.int l3)] [.int 0, .int (gI h l0 (ix (l3 + 1))), .ref l1] h else mX (mE mtab d) KL_law 268 [some (.ref l0), some (.ref l1), some (.ref l2), some (.int l3)] [.int 1, .int (gI h l0 (ix (l3 + 1))), .ref l1] h))) := by
  refine mX_to 5 (k' := 258) (ls' := [some (.ref l0), some (.ref l1), some (.ref l2), some (.int l3)]) (st' := [.int (l3 + 1), .ref l0, .ref l1]) (h' := h) rfl ?_
  refine mX_ck (k' := 259) (ls' := [some (.ref l0), some (.ref l1), some (.ref l2), some (.int l3)]) (st' := [.int (gI h l0 (ix (l3 + 1))), .ref l1]) (h' := h) rfl ?_
  refine mX_to 4 (k' := 263) (ls' := [some (.ref l0), some (.ref l1), some (.ref l2), some (.int l3)]) (st' := [.int (l3 + 2), .ref l0, .int (gI h l0 (ix (l3 + 1))), .ref l1]) (h' := h) rfl ?_
  refine mX_ck (k' := 264) (ls' := [some (.ref l0), some (.ref l1), some (.ref l2), some (.int l3)]) (st' := [.int (gI h l0 (ix (l3 + 2))), .int (gI h l0 (ix (l3 + 1))), .ref l1]) (h' := h) rfl ?_
  refine mX_br (t := 267) (f := 265) (ls' := [some (.ref l0), some (.ref l1), some (.ref l2), some (.int l3)]) (st' := [.int (gI h l0 (ix (l3 + 1))), .ref l1]) (h' := h) rfl ?_ ?_
  · refine mX_to 1 (k' := 268) (ls' := [some (.ref l0), some (.ref l1), some (.ref l2), some (.int l3)]) (st' := [.int 0, .int (gI h l0 (ix (l3 + 1))), .ref l1]) (h' := h) rfl ?_
    rfl
  · refine mX_to 2 (k' := 268) (ls' := [some (.ref l0), some (.ref l1), some (.ref l2), some (.int l3)]) (st' := [.int 1, .int (gI h l0 (ix (l3 + 1))), .ref l1]) (h' := h) rfl ?_
    rfl
set_option maxRecDepth 100000 in
theorem D_L_law_316 (d : Nat) (h : MH) (l0 : Nat) (l1 : Nat) (l2 : Nat) (l3 : Int32) : mX (mE mtab d) KL_law 316 [some (.ref l0), some (.ref l1), some (.ref l2), some (.int l3)] [] h = ck ((kd h l0 = 20 ∨ kd h l0 = 24) ∧ ib (l3 + 1) (ln h l0)) (ck ((kd h l0 = 20 ∨ kd h l0 = 24) ∧ ib (l3 + 2) (ln h l0)) (ck (kd h l1 = 11) (cI (mE mtab d 184 [.ref l1, .int (gI h l0 (ix (l3 + 1))), .int (gI h l0 (ix (l3 + 2)))] h) (fun x40 h39 => ck ((kd h39 l0 = 20 ∨ kd h39 l0 = 24) ∧ ib (l3 + 1) (ln h39 l0)) (ck ((kd h39 l0 = 20 ∨ kd h39 l0 = 24) ∧ ib (l3 + 2) (ln h39 l0)) (ck (kd h39 l2 = 12) (cI (mE mtab d 186 [.ref l2, .int (gI h39 l0 (ix (l3 + 1))), .int (gI h39 l0 (ix (l3 + 2)))] h39) (fun x42 h41 => (if x40 = x42 then mX (mE mtab d) KL_law 1008 [some (.ref l0), some (.ref l1), some (.ref l2), some (.int l3)] [] h41 else some (.int 0, h41)))))))))) := by
  refine mX_to 5 (k' := 321) (ls' := [some (.ref l0), some (.ref l1), some (.ref l2), some (.int l3)]) (st' := [.int (l3 + 1), .ref l0, .ref l1]) (h' := h) rfl ?_
  refine mX_ck (k' := 322) (ls' := [some (.ref l0), some (.ref l1), some (.ref l2), some (.int l3)]) (st' := [.int (gI h l0 (ix (l3 + 1))), .ref l1]) (h' := h) rfl ?_
  refine mX_to 4 (k' := 326) (ls' := [some (.ref l0), some (.ref l1), some (.ref l2), some (.int l3)]) (st' := [.int (l3 + 2), .ref l0, .int (gI h l0 (ix (l3 + 1))), .ref l1]) (h' := h) rfl ?_
  refine mX_ck (k' := 327) (ls' := [some (.ref l0), some (.ref l1), some (.ref l2), some (.int l3)]) (st' := [.int (gI h l0 (ix (l3 + 2))), .int (gI h l0 (ix (l3 + 1))), .ref l1]) (h' := h) rfl ?_
  refine mX_ckc (m := mcl (mE mtab d 184 [.ref l1, .int (gI h l0 (ix (l3 + 1))), .int (gI h l0 (ix (l3 + 2)))] h) 1 328 [some (.ref l0), some (.ref l1), some (.ref l2), some (.int l3)] []) rfl ?_
  refine mk_cI ?_
  intro x40 h39
  refine mX_to 5 (k' := 333) (ls' := [some (.ref l0), some (.ref l1), some (.ref l2), some (.int l3)]) (st' := [.int (l3 + 1), .ref l0, .ref l2, .int x40]) (h' := h39) rfl ?_
  refine mX_ck (k' := 334) (ls' := [some (.ref l0), some (.ref l1), some (.ref l2), some (.int l3)]) (st' := [.int (gI h39 l0 (ix (l3 + 1))), .ref l2, .int x40]) (h' := h39) rfl ?_
  refine mX_to 4 (k' := 338) (ls' := [some (.ref l0), some (.ref l1), some (.ref l2), some (.int l3)]) (st' := [.int (l3 + 2), .ref l0, .int (gI h39 l0 (ix (l3 + 1))), .ref l2, .int x40]) (h' := h39) rfl ?_
  refine mX_ck (k' := 339) (ls' := [some (.ref l0), some (.ref l1), some (.ref l2), some (.int l3)]) (st' := [.int (gI h39 l0 (ix (l3 + 2))), .int (gI h39 l0 (ix (l3 + 1))), .ref l2, .int x40]) (h' := h39) rfl ?_
  refine mX_ckc (m := mcl (mE mtab d 186 [.ref l2, .int (gI h39 l0 (ix (l3 + 1))), .int (gI h39 l0 (ix (l3 + 2)))] h39) 1 340 [some (.ref l0), some (.ref l1), some (.ref l2), some (.int l3)] [.int x40]) rfl ?_
  refine mk_cI ?_
  intro x42 h41
  refine mX_br (t := 1008) (f := 341) (ls' := [some (.ref l0), some (.ref l1), some (.ref l2), some (.int l3)]) (st' := []) (h' := h41) rfl ?_ ?_
  · rfl
  · refine mX_to 1 (k' := 342) (ls' := [some (.ref l0), some (.ref l1), some (.ref l2), some (.int l3)]) (st' := [.int 0]) (h' := h41) rfl ?_
    exact mX_retb (by decide) rfl
set_option maxRecDepth 100000 in
theorem D_L_law_343 (d : Nat) (h : MH) (l0 : Nat) (l1 : Nat) (l2 : Nat) (l3 : Int32) : mX (mE mtab d) KL_law 343 [some (.ref l0), some (.ref l1), some (.ref l2), some (.int l3)] [] h = ck ((kd h l0 = 20 ∨ kd h l0 = 24) ∧ ib (l3 + 1) (ln h l0)) (ck (kd h l1 = 11) (cI (mE mtab d 193 [.ref l1, .int (gI h l0 (ix (l3 + 1)))] h) (fun x44 h43 => ck ((kd h43 l0 = 20 ∨ kd h43 l0 = 24) ∧ ib (l3 + 1) (ln h43 l0)) (ck (kd h43 l2 = 12) (cI (mE mtab d 201 [.ref l2, .int (gI h43 l0 (ix (l3 + 1)))] h43) (fun x46 h45 => (if x44 = x46 then mX (mE mtab d) KL_law 1008 [some (.ref l0), some (.ref l1), some (.ref l2), some (.int l3)] [] h45 else some (.int 0, h45)))))))) := by
  refine mX_to 5 (k' := 348) (ls' := [some (.ref l0), some (.ref l1), some (.ref l2), some (.int l3)]) (st' := [.int (l3 + 1), .ref l0, .ref l1]) (h' := h) rfl ?_
  refine mX_ck (k' := 349) (ls' := [some (.ref l0), some (.ref l1), some (.ref l2), some (.int l3)]) (st' := [.int (gI h l0 (ix (l3 + 1))), .ref l1]) (h' := h) rfl ?_
  refine mX_ckc (m := mcl (mE mtab d 193 [.ref l1, .int (gI h l0 (ix (l3 + 1)))] h) 1 350 [some (.ref l0), some (.ref l1), some (.ref l2), some (.int l3)] []) rfl ?_
  refine mk_cI ?_
  intro x44 h43
  refine mX_to 5 (k' := 355) (ls' := [some (.ref l0), some (.ref l1), some (.ref l2), some (.int l3)]) (st' := [.int (l3 + 1), .ref l0, .ref l2, .int x44]) (h' := h43) rfl ?_
  refine mX_ck (k' := 356) (ls' := [some (.ref l0), some (.ref l1), some (.ref l2), some (.int l3)]) (st' := [.int (gI h43 l0 (ix (l3 + 1))), .ref l2, .int x44]) (h' := h43) rfl ?_
  refine mX_ckc (m := mcl (mE mtab d 201 [.ref l2, .int (gI h43 l0 (ix (l3 + 1)))] h43) 1 357 [some (.ref l0), some (.ref l1), some (.ref l2), some (.int l3)] [.int x44]) rfl ?_
  refine mk_cI ?_
  intro x46 h45
  refine mX_br (t := 1008) (f := 358) (ls' := [some (.ref l0), some (.ref l1), some (.ref l2), some (.int l3)]) (st' := []) (h' := h45) rfl ?_ ?_
  · rfl
  · refine mX_to 1 (k' := 359) (ls' := [some (.ref l0), some (.ref l1), some (.ref l2), some (.int l3)]) (st' := [.int 0]) (h' := h45) rfl ?_
    exact mX_retb (by decide) rfl
set_option maxRecDepth 100000 in
theorem D_L_law_360 (d : Nat) (h : MH) (l0 : Nat) (l1 : Nat) (l2 : Nat) (l3 : Int32) : mX (mE mtab d) KL_law 360 [some (.ref l0), some (.ref l1), some (.ref l2), some (.int l3)] [] h = ck ((kd h l0 = 20 ∨ kd h l0 = 24) ∧ ib (l3 + 1) (ln h l0)) (ck (kd h l1 = 11) (cI (mE mtab d 203 [.ref l1, .int (gI h l0 (ix (l3 + 1)))] h) (fun x48 h47 => ck ((kd h47 l0 = 20 ∨ kd h47 l0 = 24) ∧ ib (l3 + 1) (ln h47 l0)) (ck (kd h47 l2 = 12) (cI (mE mtab d 205 [.ref l2, .int (gI h47 l0 (ix (l3 + 1)))] h47) (fun x50 h49 => (if x48 = x50 then mX (mE mtab d) KL_law 1008 [some (.ref l0), some (.ref l1), some (.ref l2), some (.int l3)] [] h49 else some (.int 0, h49)))))))) := by
  refine mX_to 5 (k' := 365) (ls' := [some (.ref l0), some (.ref l1), some (.ref l2), some (.int l3)]) (st' := [.int (l3 + 1), .ref l0, .ref l1]) (h' := h) rfl ?_
  refine mX_ck (k' := 366) (ls' := [some (.ref l0), some (.ref l1), some (.ref l2), some (.int l3)]) (st' := [.int (gI h l0 (ix (l3 + 1))), .ref l1]) (h' := h) rfl ?_
  refine mX_ckc (m := mcl (mE mtab d 203 [.ref l1, .int (gI h l0 (ix (l3 + 1)))] h) 1 367 [some (.ref l0), some (.ref l1), some (.ref l2), some (.int l3)] []) rfl ?_
  refine mk_cI ?_
  intro x48 h47
  refine mX_to 5 (k' := 372) (ls' := [some (.ref l0), some (.ref l1), some (.ref l2), some (.int l3)]) (st' := [.int (l3 + 1), .ref l0, .ref l2, .int x48]) (h' := h47) rfl ?_
  refine mX_ck (k' := 373) (ls' := [some (.ref l0), some (.ref l1), some (.ref l2), some (.int l3)]) (st' := [.int (gI h47 l0 (ix (l3 + 1))), .ref l2, .int x48]) (h' := h47) rfl ?_
  refine mX_ckc (m := mcl (mE mtab d 205 [.ref l2, .int (gI h47 l0 (ix (l3 + 1)))] h47) 1 374 [some (.ref l0), some (.ref l1), some (.ref l2), some (.int l3)] [.int x48]) rfl ?_
  refine mk_cI ?_
  intro x50 h49
  refine mX_br (t := 1008) (f := 375) (ls' := [some (.ref l0), some (.ref l1), some (.ref l2), some (.int l3)]) (st' := []) (h' := h49) rfl ?_ ?_
  · rfl
  · refine mX_to 1 (k' := 376) (ls' := [some (.ref l0), some (.ref l1), some (.ref l2), some (.int l3)]) (st' := [.int 0]) (h' := h49) rfl ?_
    exact mX_retb (by decide) rfl
set_option maxRecDepth 100000 in
theorem D_L_law_377 (d : Nat) (h : MH) (l0 : Nat) (l1 : Nat) (l2 : Nat) (l3 : Int32) : mX (mE mtab d) KL_law 377 [some (.ref l0), some (.ref l1), some (.ref l2), some (.int l3)] [] h = ck ((kd h l0 = 20 ∨ kd h l0 = 24) ∧ ib (l3 + 1) (ln h l0)) (ck ((kd h l0 = 20 ∨ kd h l0 = 24) ∧ ib (l3 + 2) (ln h l0)) (ck (kd h l1 = 11) (cI (mE mtab d 207 [.ref l1, .int (gI h l0 (ix (l3 + 1))), .int (gI h l0 (ix (l3 + 2)))] h) (fun x52 h51 => ck ((kd h51 l0 = 20 ∨ kd h51 l0 = 24) ∧ ib (l3 + 1) (ln h51 l0)) (ck ((kd h51 l0 = 20 ∨ kd h51 l0 = 24) ∧ ib (l3 + 2) (ln h51 l0)) (ck (kd h51 l2 = 12) (cI (mE mtab d 209 [.ref l2, .int (gI h51 l0 (ix (l3 + 1))), .int (gI h51 l0 (ix (l3 + 2)))] h51) (fun x54 h53 => (if x52 = x54 then mX (mE mtab d) KL_law 1008 [some (.ref l0), some (.ref l1), some (.ref l2), some (.int l3)] [] h53 else some (.int 0, h53)))))))))) := by
  refine mX_to 5 (k' := 382) (ls' := [some (.ref l0), some (.ref l1), some (.ref l2), some (.int l3)]) (st' := [.int (l3 + 1), .ref l0, .ref l1]) (h' := h) rfl ?_
  refine mX_ck (k' := 383) (ls' := [some (.ref l0), some (.ref l1), some (.ref l2), some (.int l3)]) (st' := [.int (gI h l0 (ix (l3 + 1))), .ref l1]) (h' := h) rfl ?_
  refine mX_to 4 (k' := 387) (ls' := [some (.ref l0), some (.ref l1), some (.ref l2), some (.int l3)]) (st' := [.int (l3 + 2), .ref l0, .int (gI h l0 (ix (l3 + 1))), .ref l1]) (h' := h) rfl ?_
  refine mX_ck (k' := 388) (ls' := [some (.ref l0), some (.ref l1), some (.ref l2), some (.int l3)]) (st' := [.int (gI h l0 (ix (l3 + 2))), .int (gI h l0 (ix (l3 + 1))), .ref l1]) (h' := h) rfl ?_
  refine mX_ckc (m := mcl (mE mtab d 207 [.ref l1, .int (gI h l0 (ix (l3 + 1))), .int (gI h l0 (ix (l3 + 2)))] h) 1 389 [some (.ref l0), some (.ref l1), some (.ref l2), some (.int l3)] []) rfl ?_
  refine mk_cI ?_
  intro x52 h51
  refine mX_to 5 (k' := 394) (ls' := [some (.ref l0), some (.ref l1), some (.ref l2), some (.int l3)]) (st' := [.int (l3 + 1), .ref l0, .ref l2, .int x52]) (h' := h51) rfl ?_
  refine mX_ck (k' := 395) (ls' := [some (.ref l0), some (.ref l1), some (.ref l2), some (.int l3)]) (st' := [.int (gI h51 l0 (ix (l3 + 1))), .ref l2, .int x52]) (h' := h51) rfl ?_
  refine mX_to 4 (k' := 399) (ls' := [some (.ref l0), some (.ref l1), some (.ref l2), some (.int l3)]) (st' := [.int (l3 + 2), .ref l0, .int (gI h51 l0 (ix (l3 + 1))), .ref l2, .int x52]) (h' := h51) rfl ?_
  refine mX_ck (k' := 400) (ls' := [some (.ref l0), some (.ref l1), some (.ref l2), some (.int l3)]) (st' := [.int (gI h51 l0 (ix (l3 + 2))), .int (gI h51 l0 (ix (l3 + 1))), .ref l2, .int x52]) (h' := h51) rfl ?_
  refine mX_ckc (m := mcl (mE mtab d 209 [.ref l2, .int (gI h51 l0 (ix (l3 + 1))), .int (gI h51 l0 (ix (l3 + 2)))] h51) 1 401 [some (.ref l0), some (.ref l1), some (.ref l2), some (.int l3)] [.int x52]) rfl ?_
  refine mk_cI ?_
  intro x54 h53
  refine mX_br (t := 1008) (f := 402) (ls' := [some (.ref l0), some (.ref l1), some (.ref l2), some (.int l3)]) (st' := []) (h' := h53) rfl ?_ ?_
  · rfl
  · refine mX_to 1 (k' := 403) (ls' := [some (.ref l0), some (.ref l1), some (.ref l2), some (.int l3)]) (st' := [.int 0]) (h' := h53) rfl ?_
    exact mX_retb (by decide) rfl
set_option maxRecDepth 100000 in
theorem D_L_law_404 (d : Nat) (h : MH) (l0 : Nat) (l1 : Nat) (l2 : Nat) (l3 : Int32) : mX (mE mtab d) KL_law 404 [some (.ref l0), some (.ref l1), some (.ref l2), some (.int l3)] [] h = ck (kd h l1 = 11) (cI (mE mtab d 211 [.ref l1] h) (fun x56 h55 => ck (kd h55 l2 = 12) (cI (mE mtab d 212 [.ref l2] h55) (fun x58 h57 => (if x56 = x58 then mX (mE mtab d) KL_law 1008 [some (.ref l0), some (.ref l1), some (.ref l2), some (.int l3)] [] h57 else some (.int 0, h57)))))) := by
  refine mX_to 1 (k' := 405) (ls' := [some (.ref l0), some (.ref l1), some (.ref l2), some (.int l3)]) (st' := [.ref l1]) (h' := h) rfl ?_
  refine mX_ckc (m := mcl (mE mtab d 211 [.ref l1] h) 1 406 [some (.ref l0), some (.ref l1), some (.ref l2), some (.int l3)] []) rfl ?_
  refine mk_cI ?_
  intro x56 h55
  refine mX_to 1 (k' := 407) (ls' := [some (.ref l0), some (.ref l1), some (.ref l2), some (.int l3)]) (st' := [.ref l2, .int x56]) (h' := h55) rfl ?_
  refine mX_ckc (m := mcl (mE mtab d 212 [.ref l2] h55) 1 408 [some (.ref l0), some (.ref l1), some (.ref l2), some (.int l3)] [.int x56]) rfl ?_
  refine mk_cI ?_
  intro x58 h57
  refine mX_br (t := 1008) (f := 409) (ls' := [some (.ref l0), some (.ref l1), some (.ref l2), some (.int l3)]) (st' := []) (h' := h57) rfl ?_ ?_
  · rfl
  · refine mX_to 1 (k' := 410) (ls' := [some (.ref l0), some (.ref l1), some (.ref l2), some (.int l3)]) (st' := [.int 0]) (h' := h57) rfl ?_
    exact mX_retb (by decide) rfl
set_option maxRecDepth 100000 in
theorem D_L_law_411 (d : Nat) (h : MH) (l0 : Nat) (l1 : Nat) (l2 : Nat) (l3 : Int32) : mX (mE mtab d) KL_law 411 [some (.ref l0), some (.ref l1), some (.ref l2), some (.int l3)] [] h = ck ((kd h l0 = 20 ∨ kd h l0 = 24) ∧ ib (l3 + 1) (ln h l0)) (ck ((kd h l0 = 20 ∨ kd h l0 = 24) ∧ ib (l3 + 2) (ln h l0)) (ck (kd h l1 = 11) (cI (mE mtab d 213 [.ref l1, .int (gI h l0 (ix (l3 + 1))), .int (gI h l0 (ix (l3 + 2)))] h) (fun x60 h59 => ck ((kd h59 l0 = 20 ∨ kd h59 l0 = 24) ∧ ib (l3 + 1) (ln h59 l0)) (ck ((kd h59 l0 = 20 ∨ kd h59 l0 = 24) ∧ ib (l3 + 2) (ln h59 l0)) (ck (kd h59 l2 = 12) (cI (mE mtab d 214 [.ref l2, .int (gI h59 l0 (ix (l3 + 1))), .int (gI h59 l0 (ix (l3 + 2)))] h59) (fun x62 h61 => (if x60 = x62 then mX (mE mtab d) KL_law 1008 [some (.ref l0), some (.ref l1), some (.ref l2), some (.int l3)] [] h61 else some (.int 0, h61)))))))))) := by
  refine mX_to 5 (k' := 416) (ls' := [some (.ref l0), some (.ref l1), some (.ref l2), some (.int l3)]) (st' := [.int (l3 + 1), .ref l0, .ref l1]) (h' := h) rfl ?_
  refine mX_ck (k' := 417) (ls' := [some (.ref l0), some (.ref l1), some (.ref l2), some (.int l3)]) (st' := [.int (gI h l0 (ix (l3 + 1))), .ref l1]) (h' := h) rfl ?_
  refine mX_to 4 (k' := 421) (ls' := [some (.ref l0), some (.ref l1), some (.ref l2), some (.int l3)]) (st' := [.int (l3 + 2), .ref l0, .int (gI h l0 (ix (l3 + 1))), .ref l1]) (h' := h) rfl ?_
  refine mX_ck (k' := 422) (ls' := [some (.ref l0), some (.ref l1), some (.ref l2), some (.int l3)]) (st' := [.int (gI h l0 (ix (l3 + 2))), .int (gI h l0 (ix (l3 + 1))), .ref l1]) (h' := h) rfl ?_
  refine mX_ckc (m := mcl (mE mtab d 213 [.ref l1, .int (gI h l0 (ix (l3 + 1))), .int (gI h l0 (ix (l3 + 2)))] h) 1 423 [some (.ref l0), some (.ref l1), some (.ref l2), some (.int l3)] []) rfl ?_
  refine mk_cI ?_
  intro x60 h59
  refine mX_to 5 (k' := 428) (ls' := [some (.ref l0), some (.ref l1), some (.ref l2), some (.int l3)]) (st' := [.int (l3 + 1), .ref l0, .ref l2, .int x60]) (h' := h59) rfl ?_
  refine mX_ck (k' := 429) (ls' := [some (.ref l0), some (.ref l1), some (.ref l2), some (.int l3)]) (st' := [.int (gI h59 l0 (ix (l3 + 1))), .ref l2, .int x60]) (h' := h59) rfl ?_
  refine mX_to 4 (k' := 433) (ls' := [some (.ref l0), some (.ref l1), some (.ref l2), some (.int l3)]) (st' := [.int (l3 + 2), .ref l0, .int (gI h59 l0 (ix (l3 + 1))), .ref l2, .int x60]) (h' := h59) rfl ?_
  refine mX_ck (k' := 434) (ls' := [some (.ref l0), some (.ref l1), some (.ref l2), some (.int l3)]) (st' := [.int (gI h59 l0 (ix (l3 + 2))), .int (gI h59 l0 (ix (l3 + 1))), .ref l2, .int x60]) (h' := h59) rfl ?_
  refine mX_ckc (m := mcl (mE mtab d 214 [.ref l2, .int (gI h59 l0 (ix (l3 + 1))), .int (gI h59 l0 (ix (l3 + 2)))] h59) 1 435 [some (.ref l0), some (.ref l1), some (.ref l2), some (.int l3)] [.int x60]) rfl ?_
  refine mk_cI ?_
  intro x62 h61
  refine mX_br (t := 1008) (f := 436) (ls' := [some (.ref l0), some (.ref l1), some (.ref l2), some (.int l3)]) (st' := []) (h' := h61) rfl ?_ ?_
  · rfl
  · refine mX_to 1 (k' := 437) (ls' := [some (.ref l0), some (.ref l1), some (.ref l2), some (.int l3)]) (st' := [.int 0]) (h' := h61) rfl ?_
    exact mX_retb (by decide) rfl
set_option maxRecDepth 100000 in
theorem D_L_law_438 (d : Nat) (h : MH) (l0 : Nat) (l1 : Nat) (l2 : Nat) (l3 : Int32) : mX (mE mtab d) KL_law 438 [some (.ref l0), some (.ref l1), some (.ref l2), some (.int l3)] [] h = ck ((kd h l0 = 20 ∨ kd h l0 = 24) ∧ ib (l3 + 1) (ln h l0)) (ck ((kd h l0 = 20 ∨ kd h l0 = 24) ∧ ib (l3 + 2) (ln h l0)) (ck (kd h l1 = 11) (cI (mE mtab d 216 [.ref l1, .int (gI h l0 (ix (l3 + 1))), .int (gI h l0 (ix (l3 + 2)))] h) (fun x64 h63 => ck ((kd h63 l0 = 20 ∨ kd h63 l0 = 24) ∧ ib (l3 + 1) (ln h63 l0)) (ck ((kd h63 l0 = 20 ∨ kd h63 l0 = 24) ∧ ib (l3 + 2) (ln h63 l0)) (ck (kd h63 l2 = 12) (cI (mE mtab d 217 [.ref l2, .int (gI h63 l0 (ix (l3 + 1))), .int (gI h63 l0 (ix (l3 + 2)))] h63) (fun x66 h65 => (if x64 = x66 then mX (mE mtab d) KL_law 1008 [some (.ref l0), some (.ref l1), some (.ref l2), some (.int l3)] [] h65 else some (.int 0, h65)))))))))) := by
  refine mX_to 5 (k' := 443) (ls' := [some (.ref l0), some (.ref l1), some (.ref l2), some (.int l3)]) (st' := [.int (l3 + 1), .ref l0, .ref l1]) (h' := h) rfl ?_
  refine mX_ck (k' := 444) (ls' := [some (.ref l0), some (.ref l1), some (.ref l2), some (.int l3)]) (st' := [.int (gI h l0 (ix (l3 + 1))), .ref l1]) (h' := h) rfl ?_
  refine mX_to 4 (k' := 448) (ls' := [some (.ref l0), some (.ref l1), some (.ref l2), some (.int l3)]) (st' := [.int (l3 + 2), .ref l0, .int (gI h l0 (ix (l3 + 1))), .ref l1]) (h' := h) rfl ?_
  refine mX_ck (k' := 449) (ls' := [some (.ref l0), some (.ref l1), some (.ref l2), some (.int l3)]) (st' := [.int (gI h l0 (ix (l3 + 2))), .int (gI h l0 (ix (l3 + 1))), .ref l1]) (h' := h) rfl ?_
  refine mX_ckc (m := mcl (mE mtab d 216 [.ref l1, .int (gI h l0 (ix (l3 + 1))), .int (gI h l0 (ix (l3 + 2)))] h) 1 450 [some (.ref l0), some (.ref l1), some (.ref l2), some (.int l3)] []) rfl ?_
  refine mk_cI ?_
  intro x64 h63
  refine mX_to 5 (k' := 455) (ls' := [some (.ref l0), some (.ref l1), some (.ref l2), some (.int l3)]) (st' := [.int (l3 + 1), .ref l0, .ref l2, .int x64]) (h' := h63) rfl ?_
  refine mX_ck (k' := 456) (ls' := [some (.ref l0), some (.ref l1), some (.ref l2), some (.int l3)]) (st' := [.int (gI h63 l0 (ix (l3 + 1))), .ref l2, .int x64]) (h' := h63) rfl ?_
  refine mX_to 4 (k' := 460) (ls' := [some (.ref l0), some (.ref l1), some (.ref l2), some (.int l3)]) (st' := [.int (l3 + 2), .ref l0, .int (gI h63 l0 (ix (l3 + 1))), .ref l2, .int x64]) (h' := h63) rfl ?_
  refine mX_ck (k' := 461) (ls' := [some (.ref l0), some (.ref l1), some (.ref l2), some (.int l3)]) (st' := [.int (gI h63 l0 (ix (l3 + 2))), .int (gI h63 l0 (ix (l3 + 1))), .ref l2, .int x64]) (h' := h63) rfl ?_
  refine mX_ckc (m := mcl (mE mtab d 217 [.ref l2, .int (gI h63 l0 (ix (l3 + 1))), .int (gI h63 l0 (ix (l3 + 2)))] h63) 1 462 [some (.ref l0), some (.ref l1), some (.ref l2), some (.int l3)] [.int x64]) rfl ?_
  refine mk_cI ?_
  intro x66 h65
  refine mX_br (t := 1008) (f := 463) (ls' := [some (.ref l0), some (.ref l1), some (.ref l2), some (.int l3)]) (st' := []) (h' := h65) rfl ?_ ?_
  · rfl
  · refine mX_to 1 (k' := 464) (ls' := [some (.ref l0), some (.ref l1), some (.ref l2), some (.int l3)]) (st' := [.int 0]) (h' := h65) rfl ?_
    exact mX_retb (by decide) rfl
set_option maxRecDepth 100000 in
theorem D_L_law_465 (d : Nat) (h : MH) (l0 : Nat) (l1 : Nat) (l2 : Nat) (l3 : Int32) : mX (mE mtab d) KL_law 465 [some (.ref l0), some (.ref l1), some (.ref l2), some (.int l3)] [] h = ck ((kd h l0 = 20 ∨ kd h l0 = 24) ∧ ib (l3 + 1) (ln h l0)) (ck (kd h l1 = 11) (cI (mE mtab d 219 [.ref l1, .int (gI h l0 (ix (l3 + 1)))] h) (fun x68 h67 => ck ((kd h67 l0 = 20 ∨ kd h67 l0 = 24) ∧ ib (l3 + 1) (ln h67 l0)) (ck (kd h67 l2 = 12) (cI (mE mtab d 220 [.ref l2, .int (gI h67 l0 (ix (l3 + 1)))] h67) (fun x70 h69 => (if x68 = x70 then mX (mE mtab d) KL_law 1008 [some (.ref l0), some (.ref l1), some (.ref l2), some (.int l3)] [] h69 else some (.int 0, h69)))))))) := by
  refine mX_to 5 (k' := 470) (ls' := [some (.ref l0), some (.ref l1), some (.ref l2), some (.int l3)]) (st' := [.int (l3 + 1), .ref l0, .ref l1]) (h' := h) rfl ?_
  refine mX_ck (k' := 471) (ls' := [some (.ref l0), some (.ref l1), some (.ref l2), some (.int l3)]) (st' := [.int (gI h l0 (ix (l3 + 1))), .ref l1]) (h' := h) rfl ?_
  refine mX_ckc (m := mcl (mE mtab d 219 [.ref l1, .int (gI h l0 (ix (l3 + 1)))] h) 1 472 [some (.ref l0), some (.ref l1), some (.ref l2), some (.int l3)] []) rfl ?_
  refine mk_cI ?_
  intro x68 h67
  refine mX_to 5 (k' := 477) (ls' := [some (.ref l0), some (.ref l1), some (.ref l2), some (.int l3)]) (st' := [.int (l3 + 1), .ref l0, .ref l2, .int x68]) (h' := h67) rfl ?_
  refine mX_ck (k' := 478) (ls' := [some (.ref l0), some (.ref l1), some (.ref l2), some (.int l3)]) (st' := [.int (gI h67 l0 (ix (l3 + 1))), .ref l2, .int x68]) (h' := h67) rfl ?_
  refine mX_ckc (m := mcl (mE mtab d 220 [.ref l2, .int (gI h67 l0 (ix (l3 + 1)))] h67) 1 479 [some (.ref l0), some (.ref l1), some (.ref l2), some (.int l3)] [.int x68]) rfl ?_
  refine mk_cI ?_
  intro x70 h69
  refine mX_br (t := 1008) (f := 480) (ls' := [some (.ref l0), some (.ref l1), some (.ref l2), some (.int l3)]) (st' := []) (h' := h69) rfl ?_ ?_
  · rfl
  · refine mX_to 1 (k' := 481) (ls' := [some (.ref l0), some (.ref l1), some (.ref l2), some (.int l3)]) (st' := [.int 0]) (h' := h69) rfl ?_
    exact mX_retb (by decide) rfl
set_option maxRecDepth 100000 in
theorem D_L_law_482 (d : Nat) (h : MH) (l0 : Nat) (l1 : Nat) (l2 : Nat) (l3 : Int32) : mX (mE mtab d) KL_law 482 [some (.ref l0), some (.ref l1), some (.ref l2), some (.int l3)] [] h = ck ((kd h l0 = 20 ∨ kd h l0 = 24) ∧ ib (l3 + 1) (ln h l0)) (ck ((kd h l0 = 20 ∨ kd h l0 = 24) ∧ ib (l3 + 2) (ln h l0)) (ck (kd h l1 = 11) (cI (mE mtab d 222 [.ref l1, .int (gI h l0 (ix (l3 + 1))), .int (gI h l0 (ix (l3 + 2)))] h) (fun x72 h71 => ck ((kd h71 l0 = 20 ∨ kd h71 l0 = 24) ∧ ib (l3 + 1) (ln h71 l0)) (ck ((kd h71 l0 = 20 ∨ kd h71 l0 = 24) ∧ ib (l3 + 2) (ln h71 l0)) (ck (kd h71 l2 = 12) (cI (mE mtab d 224 [.ref l2, .int (gI h71 l0 (ix (l3 + 1))), .int (gI h71 l0 (ix (l3 + 2)))] h71) (fun x74 h73 => (if x72 = x74 then mX (mE mtab d) KL_law 1008 [some (.ref l0), some (.ref l1), some (.ref l2), some (.int l3)] [] h73 else some (.int 0, h73)))))))))) := by
  refine mX_to 5 (k' := 487) (ls' := [some (.ref l0), some (.ref l1), some (.ref l2), some (.int l3)]) (st' := [.int (l3 + 1), .ref l0, .ref l1]) (h' := h) rfl ?_
  refine mX_ck (k' := 488) (ls' := [some (.ref l0), some (.ref l1), some (.ref l2), some (.int l3)]) (st' := [.int (gI h l0 (ix (l3 + 1))), .ref l1]) (h' := h) rfl ?_
  refine mX_to 4 (k' := 492) (ls' := [some (.ref l0), some (.ref l1), some (.ref l2), some (.int l3)]) (st' := [.int (l3 + 2), .ref l0, .int (gI h l0 (ix (l3 + 1))), .ref l1]) (h' := h) rfl ?_
  refine mX_ck (k' := 493) (ls' := [some (.ref l0), some (.ref l1), some (.ref l2), some (.int l3)]) (st' := [.int (gI h l0 (ix (l3 + 2))), .int (gI h l0 (ix (l3 + 1))), .ref l1]) (h' := h) rfl ?_
  refine mX_ckc (m := mcl (mE mtab d 222 [.ref l1, .int (gI h l0 (ix (l3 + 1))), .int (gI h l0 (ix (l3 + 2)))] h) 1 494 [some (.ref l0), some (.ref l1), some (.ref l2), some (.int l3)] []) rfl ?_
  refine mk_cI ?_
  intro x72 h71
  refine mX_to 5 (k' := 499) (ls' := [some (.ref l0), some (.ref l1), some (.ref l2), some (.int l3)]) (st' := [.int (l3 + 1), .ref l0, .ref l2, .int x72]) (h' := h71) rfl ?_
  refine mX_ck (k' := 500) (ls' := [some (.ref l0), some (.ref l1), some (.ref l2), some (.int l3)]) (st' := [.int (gI h71 l0 (ix (l3 + 1))), .ref l2, .int x72]) (h' := h71) rfl ?_
  refine mX_to 4 (k' := 504) (ls' := [some (.ref l0), some (.ref l1), some (.ref l2), some (.int l3)]) (st' := [.int (l3 + 2), .ref l0, .int (gI h71 l0 (ix (l3 + 1))), .ref l2, .int x72]) (h' := h71) rfl ?_
  refine mX_ck (k' := 505) (ls' := [some (.ref l0), some (.ref l1), some (.ref l2), some (.int l3)]) (st' := [.int (gI h71 l0 (ix (l3 + 2))), .int (gI h71 l0 (ix (l3 + 1))), .ref l2, .int x72]) (h' := h71) rfl ?_
  refine mX_ckc (m := mcl (mE mtab d 224 [.ref l2, .int (gI h71 l0 (ix (l3 + 1))), .int (gI h71 l0 (ix (l3 + 2)))] h71) 1 506 [some (.ref l0), some (.ref l1), some (.ref l2), some (.int l3)] [.int x72]) rfl ?_
  refine mk_cI ?_
  intro x74 h73
  refine mX_br (t := 1008) (f := 507) (ls' := [some (.ref l0), some (.ref l1), some (.ref l2), some (.int l3)]) (st' := []) (h' := h73) rfl ?_ ?_
  · rfl
  · refine mX_to 1 (k' := 508) (ls' := [some (.ref l0), some (.ref l1), some (.ref l2), some (.int l3)]) (st' := [.int 0]) (h' := h73) rfl ?_
    exact mX_retb (by decide) rfl
set_option maxRecDepth 100000 in
theorem D_L_law_509 (d : Nat) (h : MH) (l0 : Nat) (l1 : Nat) (l2 : Nat) (l3 : Int32) : mX (mE mtab d) KL_law 509 [some (.ref l0), some (.ref l1), some (.ref l2), some (.int l3)] [] h = ck ((kd h l0 = 20 ∨ kd h l0 = 24) ∧ ib (l3 + 1) (ln h l0)) (ck ((kd h l0 = 20 ∨ kd h l0 = 24) ∧ ib (l3 + 2) (ln h l0)) (ck (kd h l1 = 11) (cI (mE mtab d 226 [.ref l1, .int (gI h l0 (ix (l3 + 1))), .int (gI h l0 (ix (l3 + 2)))] h) (fun x76 h75 => ck ((kd h75 l0 = 20 ∨ kd h75 l0 = 24) ∧ ib (l3 + 1) (ln h75 l0)) (ck ((kd h75 l0 = 20 ∨ kd h75 l0 = 24) ∧ ib (l3 + 2) (ln h75 l0)) (ck (kd h75 l2 = 12) (cI (mE mtab d 227 [.ref l2, .int (gI h75 l0 (ix (l3 + 1))), .int (gI h75 l0 (ix (l3 + 2)))] h75) (fun x78 h77 => (if x76 = x78 then mX (mE mtab d) KL_law 1008 [some (.ref l0), some (.ref l1), some (.ref l2), some (.int l3)] [] h77 else some (.int 0, h77)))))))))) := by
  refine mX_to 5 (k' := 514) (ls' := [some (.ref l0), some (.ref l1), some (.ref l2), some (.int l3)]) (st' := [.int (l3 + 1), .ref l0, .ref l1]) (h' := h) rfl ?_
  refine mX_ck (k' := 515) (ls' := [some (.ref l0), some (.ref l1), some (.ref l2), some (.int l3)]) (st' := [.int (gI h l0 (ix (l3 + 1))), .ref l1]) (h' := h) rfl ?_
  refine mX_to 4 (k' := 519) (ls' := [some (.ref l0), some (.ref l1), some (.ref l2), some (.int l3)]) (st' := [.int (l3 + 2), .ref l0, .int (gI h l0 (ix (l3 + 1))), .ref l1]) (h' := h) rfl ?_
  refine mX_ck (k' := 520) (ls' := [some (.ref l0), some (.ref l1), some (.ref l2), some (.int l3)]) (st' := [.int (gI h l0 (ix (l3 + 2))), .int (gI h l0 (ix (l3 + 1))), .ref l1]) (h' := h) rfl ?_
  refine mX_ckc (m := mcl (mE mtab d 226 [.ref l1, .int (gI h l0 (ix (l3 + 1))), .int (gI h l0 (ix (l3 + 2)))] h) 1 521 [some (.ref l0), some (.ref l1), some (.ref l2), some (.int l3)] []) rfl ?_
  refine mk_cI ?_
  intro x76 h75
  refine mX_to 5 (k' := 526) (ls' := [some (.ref l0), some (.ref l1), some (.ref l2), some (.int l3)]) (st' := [.int (l3 + 1), .ref l0, .ref l2, .int x76]) (h' := h75) rfl ?_
  refine mX_ck (k' := 527) (ls' := [some (.ref l0), some (.ref l1), some (.ref l2), some (.int l3)]) (st' := [.int (gI h75 l0 (ix (l3 + 1))), .ref l2, .int x76]) (h' := h75) rfl ?_
  refine mX_to 4 (k' := 531) (ls' := [some (.ref l0), some (.ref l1), some (.ref l2), some (.int l3)]) (st' := [.int (l3 + 2), .ref l0, .int (gI h75 l0 (ix (l3 + 1))), .ref l2, .int x76]) (h' := h75) rfl ?_
  refine mX_ck (k' := 532) (ls' := [some (.ref l0), some (.ref l1), some (.ref l2), some (.int l3)]) (st' := [.int (gI h75 l0 (ix (l3 + 2))), .int (gI h75 l0 (ix (l3 + 1))), .ref l2, .int x76]) (h' := h75) rfl ?_
  refine mX_ckc (m := mcl (mE mtab d 227 [.ref l2, .int (gI h75 l0 (ix (l3 + 1))), .int (gI h75 l0 (ix (l3 + 2)))] h75) 1 533 [some (.ref l0), some (.ref l1), some (.ref l2), some (.int l3)] [.int x76]) rfl ?_
  refine mk_cI ?_
  intro x78 h77
  refine mX_br (t := 1008) (f := 534) (ls' := [some (.ref l0), some (.ref l1), some (.ref l2), some (.int l3)]) (st' := []) (h' := h77) rfl ?_ ?_
  · rfl
  · refine mX_to 1 (k' := 535) (ls' := [some (.ref l0), some (.ref l1), some (.ref l2), some (.int l3)]) (st' := [.int 0]) (h' := h77) rfl ?_
    exact mX_retb (by decide) rfl
set_option maxRecDepth 100000 in
theorem D_L_law_536 (d : Nat) (h : MH) (l0 : Nat) (l1 : Nat) (l2 : Nat) (l3 : Int32) : mX (mE mtab d) KL_law 536 [some (.ref l0), some (.ref l1), some (.ref l2), some (.int l3)] [] h = ck ((kd h l0 = 20 ∨ kd h l0 = 24) ∧ ib (l3 + 1) (ln h l0)) (ck ((kd h l0 = 20 ∨ kd h l0 = 24) ∧ ib (l3 + 2) (ln h l0)) (ck (kd h l1 = 11) (cI (mE mtab d 228 [.ref l1, .int (gI h l0 (ix (l3 + 1))), .int (gI h l0 (ix (l3 + 2)))] h) (fun x80 h79 => ck ((kd h79 l0 = 20 ∨ kd h79 l0 = 24) ∧ ib (l3 + 1) (ln h79 l0)) (ck ((kd h79 l0 = 20 ∨ kd h79 l0 = 24) ∧ ib (l3 + 2) (ln h79 l0)) (ck (kd h79 l2 = 12) (cI (mE mtab d 229 [.ref l2, .int (gI h79 l0 (ix (l3 + 1))), .int (gI h79 l0 (ix (l3 + 2)))] h79) (fun x82 h81 => (if x80 = x82 then mX (mE mtab d) KL_law 1008 [some (.ref l0), some (.ref l1), some (.ref l2), some (.int l3)] [] h81 else some (.int 0, h81)))))))))) := by
  refine mX_to 5 (k' := 541) (ls' := [some (.ref l0), some (.ref l1), some (.ref l2), some (.int l3)]) (st' := [.int (l3 + 1), .ref l0, .ref l1]) (h' := h) rfl ?_
  refine mX_ck (k' := 542) (ls' := [some (.ref l0), some (.ref l1), some (.ref l2), some (.int l3)]) (st' := [.int (gI h l0 (ix (l3 + 1))), .ref l1]) (h' := h) rfl ?_
  refine mX_to 4 (k' := 546) (ls' := [some (.ref l0), some (.ref l1), some (.ref l2), some (.int l3)]) (st' := [.int (l3 + 2), .ref l0, .int (gI h l0 (ix (l3 + 1))), .ref l1]) (h' := h) rfl ?_
  refine mX_ck (k' := 547) (ls' := [some (.ref l0), some (.ref l1), some (.ref l2), some (.int l3)]) (st' := [.int (gI h l0 (ix (l3 + 2))), .int (gI h l0 (ix (l3 + 1))), .ref l1]) (h' := h) rfl ?_
  refine mX_ckc (m := mcl (mE mtab d 228 [.ref l1, .int (gI h l0 (ix (l3 + 1))), .int (gI h l0 (ix (l3 + 2)))] h) 1 548 [some (.ref l0), some (.ref l1), some (.ref l2), some (.int l3)] []) rfl ?_
  refine mk_cI ?_
  intro x80 h79
  refine mX_to 5 (k' := 553) (ls' := [some (.ref l0), some (.ref l1), some (.ref l2), some (.int l3)]) (st' := [.int (l3 + 1), .ref l0, .ref l2, .int x80]) (h' := h79) rfl ?_
  refine mX_ck (k' := 554) (ls' := [some (.ref l0), some (.ref l1), some (.ref l2), some (.int l3)]) (st' := [.int (gI h79 l0 (ix (l3 + 1))), .ref l2, .int x80]) (h' := h79) rfl ?_
  refine mX_to 4 (k' := 558) (ls' := [some (.ref l0), some (.ref l1), some (.ref l2), some (.int l3)]) (st' := [.int (l3 + 2), .ref l0, .int (gI h79 l0 (ix (l3 + 1))), .ref l2, .int x80]) (h' := h79) rfl ?_
  refine mX_ck (k' := 559) (ls' := [some (.ref l0), some (.ref l1), some (.ref l2), some (.int l3)]) (st' := [.int (gI h79 l0 (ix (l3 + 2))), .int (gI h79 l0 (ix (l3 + 1))), .ref l2, .int x80]) (h' := h79) rfl ?_
  refine mX_ckc (m := mcl (mE mtab d 229 [.ref l2, .int (gI h79 l0 (ix (l3 + 1))), .int (gI h79 l0 (ix (l3 + 2)))] h79) 1 560 [some (.ref l0), some (.ref l1), some (.ref l2), some (.int l3)] [.int x80]) rfl ?_
  refine mk_cI ?_
  intro x82 h81
  refine mX_br (t := 1008) (f := 561) (ls' := [some (.ref l0), some (.ref l1), some (.ref l2), some (.int l3)]) (st' := []) (h' := h81) rfl ?_ ?_
  · rfl
  · refine mX_to 1 (k' := 562) (ls' := [some (.ref l0), some (.ref l1), some (.ref l2), some (.int l3)]) (st' := [.int 0]) (h' := h81) rfl ?_
    exact mX_retb (by decide) rfl
set_option maxRecDepth 100000 in
theorem D_L_law_563 (d : Nat) (h : MH) (l0 : Nat) (l1 : Nat) (l2 : Nat) (l3 : Int32) : mX (mE mtab d) KL_law 563 [some (.ref l0), some (.ref l1), some (.ref l2), some (.int l3)] [] h = ck ((kd h l0 = 20 ∨ kd h l0 = 24) ∧ ib (l3 + 1) (ln h l0)) ((if (gI h l0 (ix (l3 + 1))) = 0 then mX (mE mtab d) KL_law 573 [some (.ref l0), some (.ref l1), some (.ref l2), some (.int l3)] [.int 0, .ref l1] h else mX (mE mtab d) KL_law 573 [some (.ref l0), some (.ref l1), some (.ref l2), some (.int l3)] [.int 1, .ref l1] h)) := by
  refine mX_to 5 (k' := 568) (ls' := [some (.ref l0), some (.ref l1), some (.ref l2), some (.int l3)]) (st' := [.int (l3 + 1), .ref l0, .ref l1]) (h' := h) rfl ?_
  refine mX_ck (k' := 569) (ls' := [some (.ref l0), some (.ref l1), some (.ref l2), some (.int l3)]) (st' := [.int (gI h l0 (ix (l3 + 1))), .ref l1]) (h' := h) rfl ?_
  refine mX_br (t := 572) (f := 570) (ls' := [some (.ref l0), some (.ref l1), some (.ref l2), some (.int l3)]) (st' := [.ref l1]) (h' := h) rfl ?_ ?_
  · refine mX_to 1 (k' := 573) (ls' := [some (.ref l0), some (.ref l1), some (.ref l2), some (.int l3)]) (st' := [.int 0, .ref l1]) (h' := h) rfl ?_
    rfl
  · refine mX_to 2 (k' := 573) (ls' := [some (.ref l0), some (.ref l1), some (.ref l2), some (.int l3)]) (st' := [.int 1, .ref l1]) (h' := h) rfl ?_
    rfl
set_option maxRecDepth 100000 in
theorem D_L_law_598 (d : Nat) (h : MH) (l0 : Nat) (l1 : Nat) (l2 : Nat) (l3 : Int32) : mX (mE mtab d) KL_law 598 [some (.ref l0), some (.ref l1), some (.ref l2), some (.int l3)] [] h = ck ((kd h l0 = 20 ∨ kd h l0 = 24) ∧ ib (l3 + 1) (ln h l0)) ((if (gI h l0 (ix (l3 + 1))) = 0 then mX (mE mtab d) KL_law 608 [some (.ref l0), some (.ref l1), some (.ref l2), some (.int l3)] [.int 0, .ref l1] h else mX (mE mtab d) KL_law 608 [some (.ref l0), some (.ref l1), some (.ref l2), some (.int l3)] [.int 1, .ref l1] h)) := by
  refine mX_to 5 (k' := 603) (ls' := [some (.ref l0), some (.ref l1), some (.ref l2), some (.int l3)]) (st' := [.int (l3 + 1), .ref l0, .ref l1]) (h' := h) rfl ?_
  refine mX_ck (k' := 604) (ls' := [some (.ref l0), some (.ref l1), some (.ref l2), some (.int l3)]) (st' := [.int (gI h l0 (ix (l3 + 1))), .ref l1]) (h' := h) rfl ?_
  refine mX_br (t := 607) (f := 605) (ls' := [some (.ref l0), some (.ref l1), some (.ref l2), some (.int l3)]) (st' := [.ref l1]) (h' := h) rfl ?_ ?_
  · refine mX_to 1 (k' := 608) (ls' := [some (.ref l0), some (.ref l1), some (.ref l2), some (.int l3)]) (st' := [.int 0, .ref l1]) (h' := h) rfl ?_
    rfl
  · refine mX_to 2 (k' := 608) (ls' := [some (.ref l0), some (.ref l1), some (.ref l2), some (.int l3)]) (st' := [.int 1, .ref l1]) (h' := h) rfl ?_
    rfl
set_option maxRecDepth 100000 in
theorem D_L_law_623 (d : Nat) (h : MH) (l0 : Nat) (l1 : Nat) (l2 : Nat) (l3 : Int32) : mX (mE mtab d) KL_law 623 [some (.ref l0), some (.ref l1), some (.ref l2), some (.int l3)] [] h = ck ((kd h l0 = 20 ∨ kd h l0 = 24) ∧ ib (l3 + 1) (ln h l0)) ((if (gI h l0 (ix (l3 + 1))) = 0 then mX (mE mtab d) KL_law 633 [some (.ref l0), some (.ref l1), some (.ref l2), some (.int l3)] [.int 0, .ref l1] h else mX (mE mtab d) KL_law 633 [some (.ref l0), some (.ref l1), some (.ref l2), some (.int l3)] [.int 1, .ref l1] h)) := by
  refine mX_to 5 (k' := 628) (ls' := [some (.ref l0), some (.ref l1), some (.ref l2), some (.int l3)]) (st' := [.int (l3 + 1), .ref l0, .ref l1]) (h' := h) rfl ?_
  refine mX_ck (k' := 629) (ls' := [some (.ref l0), some (.ref l1), some (.ref l2), some (.int l3)]) (st' := [.int (gI h l0 (ix (l3 + 1))), .ref l1]) (h' := h) rfl ?_
  refine mX_br (t := 632) (f := 630) (ls' := [some (.ref l0), some (.ref l1), some (.ref l2), some (.int l3)]) (st' := [.ref l1]) (h' := h) rfl ?_ ?_
  · refine mX_to 1 (k' := 633) (ls' := [some (.ref l0), some (.ref l1), some (.ref l2), some (.int l3)]) (st' := [.int 0, .ref l1]) (h' := h) rfl ?_
    rfl
  · refine mX_to 2 (k' := 633) (ls' := [some (.ref l0), some (.ref l1), some (.ref l2), some (.int l3)]) (st' := [.int 1, .ref l1]) (h' := h) rfl ?_
    rfl
set_option maxRecDepth 100000 in
theorem D_L_law_648 (d : Nat) (h : MH) (l0 : Nat) (l1 : Nat) (l2 : Nat) (l3 : Int32) : mX (mE mtab d) KL_law 648 [some (.ref l0), some (.ref l1), some (.ref l2), some (.int l3)] [] h = ck ((kd h l0 = 20 ∨ kd h l0 = 24) ∧ ib (l3 + 1) (ln h l0)) (ck (kd h l1 = 11) (cI (mE mtab d 272 [.ref l1, .int (gI h l0 (ix (l3 + 1)))] h) (fun x84 h83 => ck ((kd h83 l0 = 20 ∨ kd h83 l0 = 24) ∧ ib (l3 + 1) (ln h83 l0)) (ck (kd h83 l2 = 12) (cI (mE mtab d 273 [.ref l2, .int (gI h83 l0 (ix (l3 + 1)))] h83) (fun x86 h85 => (if x84 = x86 then mX (mE mtab d) KL_law 1008 [some (.ref l0), some (.ref l1), some (.ref l2), some (.int l3)] [] h85 else some (.int 0, h85)))))))) := by
  refine mX_to 5 (k' := 653) (ls' := [some (.ref l0), some (.ref l1), some (.ref l2), some (.int l3)]) (st' := [.int (l3 + 1), .ref l0, .ref l1]) (h' := h) rfl ?_
  refine mX_ck (k' := 654) (ls' := [some (.ref l0), some (.ref l1), some (.ref l2), some (.int l3)]) (st' := [.int (gI h l0 (ix (l3 + 1))), .ref l1]) (h' := h) rfl ?_
  refine mX_ckc (m := mcl (mE mtab d 272 [.ref l1, .int (gI h l0 (ix (l3 + 1)))] h) 1 655 [some (.ref l0), some (.ref l1), some (.ref l2), some (.int l3)] []) rfl ?_
  refine mk_cI ?_
  intro x84 h83
  refine mX_to 5 (k' := 660) (ls' := [some (.ref l0), some (.ref l1), some (.ref l2), some (.int l3)]) (st' := [.int (l3 + 1), .ref l0, .ref l2, .int x84]) (h' := h83) rfl ?_
  refine mX_ck (k' := 661) (ls' := [some (.ref l0), some (.ref l1), some (.ref l2), some (.int l3)]) (st' := [.int (gI h83 l0 (ix (l3 + 1))), .ref l2, .int x84]) (h' := h83) rfl ?_
  refine mX_ckc (m := mcl (mE mtab d 273 [.ref l2, .int (gI h83 l0 (ix (l3 + 1)))] h83) 1 662 [some (.ref l0), some (.ref l1), some (.ref l2), some (.int l3)] [.int x84]) rfl ?_
  refine mk_cI ?_
  intro x86 h85
  refine mX_br (t := 1008) (f := 663) (ls' := [some (.ref l0), some (.ref l1), some (.ref l2), some (.int l3)]) (st' := []) (h' := h85) rfl ?_ ?_
  · rfl
  · refine mX_to 1 (k' := 664) (ls' := [some (.ref l0), some (.ref l1), some (.ref l2), some (.int l3)]) (st' := [.int 0]) (h' := h85) rfl ?_
    exact mX_retb (by decide) rfl
set_option maxRecDepth 100000 in
theorem D_L_law_665 (d : Nat) (h : MH) (l0 : Nat) (l1 : Nat) (l2 : Nat) (l3 : Int32) : mX (mE mtab d) KL_law 665 [some (.ref l0), some (.ref l1), some (.ref l2), some (.int l3)] [] h = ck ((kd h l0 = 20 ∨ kd h l0 = 24) ∧ ib (l3 + 1) (ln h l0)) (ck ((kd h l0 = 20 ∨ kd h l0 = 24) ∧ ib (l3 + 2) (ln h l0)) (ck (kd h l1 = 11) (cI (mE mtab d 274 [.ref l1, .int (gI h l0 (ix (l3 + 1))), .int (gI h l0 (ix (l3 + 2)))] h) (fun x88 h87 => ck ((kd h87 l0 = 20 ∨ kd h87 l0 = 24) ∧ ib (l3 + 1) (ln h87 l0)) (ck ((kd h87 l0 = 20 ∨ kd h87 l0 = 24) ∧ ib (l3 + 2) (ln h87 l0)) (ck (kd h87 l2 = 12) (cI (mE mtab d 275 [.ref l2, .int (gI h87 l0 (ix (l3 + 1))), .int (gI h87 l0 (ix (l3 + 2)))] h87) (fun x90 h89 => (if x88 = x90 then mX (mE mtab d) KL_law 1008 [some (.ref l0), some (.ref l1), some (.ref l2), some (.int l3)] [] h89 else some (.int 0, h89)))))))))) := by
  refine mX_to 5 (k' := 670) (ls' := [some (.ref l0), some (.ref l1), some (.ref l2), some (.int l3)]) (st' := [.int (l3 + 1), .ref l0, .ref l1]) (h' := h) rfl ?_
  refine mX_ck (k' := 671) (ls' := [some (.ref l0), some (.ref l1), some (.ref l2), some (.int l3)]) (st' := [.int (gI h l0 (ix (l3 + 1))), .ref l1]) (h' := h) rfl ?_
  refine mX_to 4 (k' := 675) (ls' := [some (.ref l0), some (.ref l1), some (.ref l2), some (.int l3)]) (st' := [.int (l3 + 2), .ref l0, .int (gI h l0 (ix (l3 + 1))), .ref l1]) (h' := h) rfl ?_
  refine mX_ck (k' := 676) (ls' := [some (.ref l0), some (.ref l1), some (.ref l2), some (.int l3)]) (st' := [.int (gI h l0 (ix (l3 + 2))), .int (gI h l0 (ix (l3 + 1))), .ref l1]) (h' := h) rfl ?_
  refine mX_ckc (m := mcl (mE mtab d 274 [.ref l1, .int (gI h l0 (ix (l3 + 1))), .int (gI h l0 (ix (l3 + 2)))] h) 1 677 [some (.ref l0), some (.ref l1), some (.ref l2), some (.int l3)] []) rfl ?_
  refine mk_cI ?_
  intro x88 h87
  refine mX_to 5 (k' := 682) (ls' := [some (.ref l0), some (.ref l1), some (.ref l2), some (.int l3)]) (st' := [.int (l3 + 1), .ref l0, .ref l2, .int x88]) (h' := h87) rfl ?_
  refine mX_ck (k' := 683) (ls' := [some (.ref l0), some (.ref l1), some (.ref l2), some (.int l3)]) (st' := [.int (gI h87 l0 (ix (l3 + 1))), .ref l2, .int x88]) (h' := h87) rfl ?_
  refine mX_to 4 (k' := 687) (ls' := [some (.ref l0), some (.ref l1), some (.ref l2), some (.int l3)]) (st' := [.int (l3 + 2), .ref l0, .int (gI h87 l0 (ix (l3 + 1))), .ref l2, .int x88]) (h' := h87) rfl ?_
  refine mX_ck (k' := 688) (ls' := [some (.ref l0), some (.ref l1), some (.ref l2), some (.int l3)]) (st' := [.int (gI h87 l0 (ix (l3 + 2))), .int (gI h87 l0 (ix (l3 + 1))), .ref l2, .int x88]) (h' := h87) rfl ?_
  refine mX_ckc (m := mcl (mE mtab d 275 [.ref l2, .int (gI h87 l0 (ix (l3 + 1))), .int (gI h87 l0 (ix (l3 + 2)))] h87) 1 689 [some (.ref l0), some (.ref l1), some (.ref l2), some (.int l3)] [.int x88]) rfl ?_
  refine mk_cI ?_
  intro x90 h89
  refine mX_br (t := 1008) (f := 690) (ls' := [some (.ref l0), some (.ref l1), some (.ref l2), some (.int l3)]) (st' := []) (h' := h89) rfl ?_ ?_
  · rfl
  · refine mX_to 1 (k' := 691) (ls' := [some (.ref l0), some (.ref l1), some (.ref l2), some (.int l3)]) (st' := [.int 0]) (h' := h89) rfl ?_
    exact mX_retb (by decide) rfl
set_option maxRecDepth 100000 in
theorem D_L_law_692 (d : Nat) (h : MH) (l0 : Nat) (l1 : Nat) (l2 : Nat) (l3 : Int32) : mX (mE mtab d) KL_law 692 [some (.ref l0), some (.ref l1), some (.ref l2), some (.int l3)] [] h = ck ((kd h l0 = 20 ∨ kd h l0 = 24) ∧ ib (l3 + 1) (ln h l0)) ((if (gI h l0 (ix (l3 + 1))) = 0 then mX (mE mtab d) KL_law 702 [some (.ref l0), some (.ref l1), some (.ref l2), some (.int l3)] [.int 0, .ref l1] h else mX (mE mtab d) KL_law 702 [some (.ref l0), some (.ref l1), some (.ref l2), some (.int l3)] [.int 1, .ref l1] h)) := by
  refine mX_to 5 (k' := 697) (ls' := [some (.ref l0), some (.ref l1), some (.ref l2), some (.int l3)]) (st' := [.int (l3 + 1), .ref l0, .ref l1]) (h' := h) rfl ?_
  refine mX_ck (k' := 698) (ls' := [some (.ref l0), some (.ref l1), some (.ref l2), some (.int l3)]) (st' := [.int (gI h l0 (ix (l3 + 1))), .ref l1]) (h' := h) rfl ?_
  refine mX_br (t := 701) (f := 699) (ls' := [some (.ref l0), some (.ref l1), some (.ref l2), some (.int l3)]) (st' := [.ref l1]) (h' := h) rfl ?_ ?_
  · refine mX_to 1 (k' := 702) (ls' := [some (.ref l0), some (.ref l1), some (.ref l2), some (.int l3)]) (st' := [.int 0, .ref l1]) (h' := h) rfl ?_
    rfl
  · refine mX_to 2 (k' := 702) (ls' := [some (.ref l0), some (.ref l1), some (.ref l2), some (.int l3)]) (st' := [.int 1, .ref l1]) (h' := h) rfl ?_
    rfl
set_option maxRecDepth 100000 in
theorem D_L_law_717 (d : Nat) (h : MH) (l0 : Nat) (l1 : Nat) (l2 : Nat) (l3 : Int32) : mX (mE mtab d) KL_law 717 [some (.ref l0), some (.ref l1), some (.ref l2), some (.int l3)] [] h = ck (kd h l1 = 11) (cL (mE mtab d 284 [.ref l1] h) (fun x92 h91 => ck (kd h91 l2 = 12) (cL (mE mtab d 285 [.ref l2] h91) (fun x94 h93 => (if (lg_cmp x92 x94) = 0 then mX (mE mtab d) KL_law 1008 [some (.ref l0), some (.ref l1), some (.ref l2), some (.int l3)] [] h93 else some (.int 0, h93)))))) := by
  refine mX_to 1 (k' := 718) (ls' := [some (.ref l0), some (.ref l1), some (.ref l2), some (.int l3)]) (st' := [.ref l1]) (h' := h) rfl ?_
  refine mX_ckc (m := mcl (mE mtab d 284 [.ref l1] h) 2 719 [some (.ref l0), some (.ref l1), some (.ref l2), some (.int l3)] []) rfl ?_
  refine mk_cL ?_
  intro x92 h91
  refine mX_to 1 (k' := 720) (ls' := [some (.ref l0), some (.ref l1), some (.ref l2), some (.int l3)]) (st' := [.ref l2, .long x92]) (h' := h91) rfl ?_
  refine mX_ckc (m := mcl (mE mtab d 285 [.ref l2] h91) 2 721 [some (.ref l0), some (.ref l1), some (.ref l2), some (.int l3)] [.long x92]) rfl ?_
  refine mk_cL ?_
  intro x94 h93
  refine mX_to 1 (k' := 722) (ls' := [some (.ref l0), some (.ref l1), some (.ref l2), some (.int l3)]) (st' := [.int (lg_cmp x92 x94)]) (h' := h93) rfl ?_
  refine mX_br (t := 1008) (f := 723) (ls' := [some (.ref l0), some (.ref l1), some (.ref l2), some (.int l3)]) (st' := []) (h' := h93) rfl ?_ ?_
  · rfl
  · refine mX_to 1 (k' := 724) (ls' := [some (.ref l0), some (.ref l1), some (.ref l2), some (.int l3)]) (st' := [.int 0]) (h' := h93) rfl ?_
    exact mX_retb (by decide) rfl
set_option maxRecDepth 100000 in
theorem D_L_law_725 (d : Nat) (h : MH) (l0 : Nat) (l1 : Nat) (l2 : Nat) (l3 : Int32) : mX (mE mtab d) KL_law 725 [some (.ref l0), some (.ref l1), some (.ref l2), some (.int l3)] [] h = ck ((kd h l0 = 20 ∨ kd h l0 = 24) ∧ ib (l3 + 1) (ln h l0)) (ck (kd h l1 = 11) (cI (mE mtab d 288 [.ref l1, .int (gI h l0 (ix (l3 + 1)))] h) (fun x96 h95 => ck ((kd h95 l0 = 20 ∨ kd h95 l0 = 24) ∧ ib (l3 + 1) (ln h95 l0)) (ck (kd h95 l2 = 12) (cI (mE mtab d 289 [.ref l2, .int (gI h95 l0 (ix (l3 + 1)))] h95) (fun x98 h97 => (if x96 = x98 then mX (mE mtab d) KL_law 1008 [some (.ref l0), some (.ref l1), some (.ref l2), some (.int l3)] [] h97 else some (.int 0, h97)))))))) := by
  refine mX_to 5 (k' := 730) (ls' := [some (.ref l0), some (.ref l1), some (.ref l2), some (.int l3)]) (st' := [.int (l3 + 1), .ref l0, .ref l1]) (h' := h) rfl ?_
  refine mX_ck (k' := 731) (ls' := [some (.ref l0), some (.ref l1), some (.ref l2), some (.int l3)]) (st' := [.int (gI h l0 (ix (l3 + 1))), .ref l1]) (h' := h) rfl ?_
  refine mX_ckc (m := mcl (mE mtab d 288 [.ref l1, .int (gI h l0 (ix (l3 + 1)))] h) 1 732 [some (.ref l0), some (.ref l1), some (.ref l2), some (.int l3)] []) rfl ?_
  refine mk_cI ?_
  intro x96 h95
  refine mX_to 5 (k' := 737) (ls' := [some (.ref l0), some (.ref l1), some (.ref l2), some (.int l3)]) (st' := [.int (l3 + 1), .ref l0, .ref l2, .int x96]) (h' := h95) rfl ?_
  refine mX_ck (k' := 738) (ls' := [some (.ref l0), some (.ref l1), some (.ref l2), some (.int l3)]) (st' := [.int (gI h95 l0 (ix (l3 + 1))), .ref l2, .int x96]) (h' := h95) rfl ?_
  refine mX_ckc (m := mcl (mE mtab d 289 [.ref l2, .int (gI h95 l0 (ix (l3 + 1)))] h95) 1 739 [some (.ref l0), some (.ref l1), some (.ref l2), some (.int l3)] [.int x96]) rfl ?_
  refine mk_cI ?_
  intro x98 h97
  refine mX_br (t := 1008) (f := 740) (ls' := [some (.ref l0), some (.ref l1), some (.ref l2), some (.int l3)]) (st' := []) (h' := h97) rfl ?_ ?_
  · rfl
  · refine mX_to 1 (k' := 741) (ls' := [some (.ref l0), some (.ref l1), some (.ref l2), some (.int l3)]) (st' := [.int 0]) (h' := h97) rfl ?_
    exact mX_retb (by decide) rfl
set_option maxRecDepth 100000 in
theorem D_L_law_742 (d : Nat) (h : MH) (l0 : Nat) (l1 : Nat) (l2 : Nat) (l3 : Int32) : mX (mE mtab d) KL_law 742 [some (.ref l0), some (.ref l1), some (.ref l2), some (.int l3)] [] h = ck ((kd h l0 = 20 ∨ kd h l0 = 24) ∧ ib (l3 + 1) (ln h l0)) (ck ((kd h l0 = 20 ∨ kd h l0 = 24) ∧ ib (l3 + 2) (ln h l0)) ((if (gI h l0 (ix (l3 + 2))) = 0 then mX (mE mtab d) KL_law 757 [some (.ref l0), some (.ref l1), some (.ref l2), some (.int l3)] [.int 0, .int (gI h l0 (ix (l3 + 1))), .ref l1] h else mX (mE mtab d) KL_law 757 [some (.ref l0), some (.ref l1), some (.ref l2), some (.int l3)] [.int 1, .int (gI h l0 (ix (l3 + 1))), .ref l1] h))) := by
  refine mX_to 5 (k' := 747) (ls' := [some (.ref l0), some (.ref l1), some (.ref l2), some (.int l3)]) (st' := [.int (l3 + 1), .ref l0, .ref l1]) (h' := h) rfl ?_
  refine mX_ck (k' := 748) (ls' := [some (.ref l0), some (.ref l1), some (.ref l2), some (.int l3)]) (st' := [.int (gI h l0 (ix (l3 + 1))), .ref l1]) (h' := h) rfl ?_
  refine mX_to 4 (k' := 752) (ls' := [some (.ref l0), some (.ref l1), some (.ref l2), some (.int l3)]) (st' := [.int (l3 + 2), .ref l0, .int (gI h l0 (ix (l3 + 1))), .ref l1]) (h' := h) rfl ?_
  refine mX_ck (k' := 753) (ls' := [some (.ref l0), some (.ref l1), some (.ref l2), some (.int l3)]) (st' := [.int (gI h l0 (ix (l3 + 2))), .int (gI h l0 (ix (l3 + 1))), .ref l1]) (h' := h) rfl ?_
  refine mX_br (t := 756) (f := 754) (ls' := [some (.ref l0), some (.ref l1), some (.ref l2), some (.int l3)]) (st' := [.int (gI h l0 (ix (l3 + 1))), .ref l1]) (h' := h) rfl ?_ ?_
  · refine mX_to 1 (k' := 757) (ls' := [some (.ref l0), some (.ref l1), some (.ref l2), some (.int l3)]) (st' := [.int 0, .int (gI h l0 (ix (l3 + 1))), .ref l1]) (h' := h) rfl ?_
    rfl
  · refine mX_to 2 (k' := 757) (ls' := [some (.ref l0), some (.ref l1), some (.ref l2), some (.int l3)]) (st' := [.int 1, .int (gI h l0 (ix (l3 + 1))), .ref l1]) (h' := h) rfl ?_
    rfl
set_option maxRecDepth 100000 in
theorem D_L_law_777 (d : Nat) (h : MH) (l0 : Nat) (l1 : Nat) (l2 : Nat) (l3 : Int32) : mX (mE mtab d) KL_law 777 [some (.ref l0), some (.ref l1), some (.ref l2), some (.int l3)] [] h = ck ((kd h l0 = 20 ∨ kd h l0 = 24) ∧ ib (l3 + 1) (ln h l0)) (ck ((kd h l0 = 20 ∨ kd h l0 = 24) ∧ ib (l3 + 2) (ln h l0)) ((if (gI h l0 (ix (l3 + 2))) = 0 then mX (mE mtab d) KL_law 792 [some (.ref l0), some (.ref l1), some (.ref l2), some (.int l3)] [.int 0, .int (gI h l0 (ix (l3 + 1))), .ref l1] h else mX (mE mtab d) KL_law 792 [some (.ref l0), some (.ref l1), some (.ref l2), some (.int l3)] [.int 1, .int (gI h l0 (ix (l3 + 1))), .ref l1] h))) := by
  refine mX_to 5 (k' := 782) (ls' := [some (.ref l0), some (.ref l1), some (.ref l2), some (.int l3)]) (st' := [.int (l3 + 1), .ref l0, .ref l1]) (h' := h) rfl ?_
  refine mX_ck (k' := 783) (ls' := [some (.ref l0), some (.ref l1), some (.ref l2), some (.int l3)]) (st' := [.int (gI h l0 (ix (l3 + 1))), .ref l1]) (h' := h) rfl ?_
  refine mX_to 4 (k' := 787) (ls' := [some (.ref l0), some (.ref l1), some (.ref l2), some (.int l3)]) (st' := [.int (l3 + 2), .ref l0, .int (gI h l0 (ix (l3 + 1))), .ref l1]) (h' := h) rfl ?_
  refine mX_ck (k' := 788) (ls' := [some (.ref l0), some (.ref l1), some (.ref l2), some (.int l3)]) (st' := [.int (gI h l0 (ix (l3 + 2))), .int (gI h l0 (ix (l3 + 1))), .ref l1]) (h' := h) rfl ?_
  refine mX_br (t := 791) (f := 789) (ls' := [some (.ref l0), some (.ref l1), some (.ref l2), some (.int l3)]) (st' := [.int (gI h l0 (ix (l3 + 1))), .ref l1]) (h' := h) rfl ?_ ?_
  · refine mX_to 1 (k' := 792) (ls' := [some (.ref l0), some (.ref l1), some (.ref l2), some (.int l3)]) (st' := [.int 0, .int (gI h l0 (ix (l3 + 1))), .ref l1]) (h' := h) rfl ?_
    rfl
  · refine mX_to 2 (k' := 792) (ls' := [some (.ref l0), some (.ref l1), some (.ref l2), some (.int l3)]) (st' := [.int 1, .int (gI h l0 (ix (l3 + 1))), .ref l1]) (h' := h) rfl ?_
    rfl
set_option maxRecDepth 100000 in
theorem D_L_law_812 (d : Nat) (h : MH) (l0 : Nat) (l1 : Nat) (l2 : Nat) (l3 : Int32) : mX (mE mtab d) KL_law 812 [some (.ref l0), some (.ref l1), some (.ref l2), some (.int l3)] [] h = ck ((kd h l0 = 20 ∨ kd h l0 = 24) ∧ ib (l3 + 1) (ln h l0)) (ck (kd h l1 = 11) (cI (mE mtab d 300 [.ref l1, .int (gI h l0 (ix (l3 + 1)))] h) (fun x100 h99 => ck ((kd h99 l0 = 20 ∨ kd h99 l0 = 24) ∧ ib (l3 + 1) (ln h99 l0)) (ck (kd h99 l2 = 12) (cI (mE mtab d 302 [.ref l2, .int (gI h99 l0 (ix (l3 + 1)))] h99) (fun x102 h101 => (if x100 = x102 then mX (mE mtab d) KL_law 1008 [some (.ref l0), some (.ref l1), some (.ref l2), some (.int l3)] [] h101 else some (.int 0, h101)))))))) := by
  refine mX_to 5 (k' := 817) (ls' := [some (.ref l0), some (.ref l1), some (.ref l2), some (.int l3)]) (st' := [.int (l3 + 1), .ref l0, .ref l1]) (h' := h) rfl ?_
  refine mX_ck (k' := 818) (ls' := [some (.ref l0), some (.ref l1), some (.ref l2), some (.int l3)]) (st' := [.int (gI h l0 (ix (l3 + 1))), .ref l1]) (h' := h) rfl ?_
  refine mX_ckc (m := mcl (mE mtab d 300 [.ref l1, .int (gI h l0 (ix (l3 + 1)))] h) 1 819 [some (.ref l0), some (.ref l1), some (.ref l2), some (.int l3)] []) rfl ?_
  refine mk_cI ?_
  intro x100 h99
  refine mX_to 5 (k' := 824) (ls' := [some (.ref l0), some (.ref l1), some (.ref l2), some (.int l3)]) (st' := [.int (l3 + 1), .ref l0, .ref l2, .int x100]) (h' := h99) rfl ?_
  refine mX_ck (k' := 825) (ls' := [some (.ref l0), some (.ref l1), some (.ref l2), some (.int l3)]) (st' := [.int (gI h99 l0 (ix (l3 + 1))), .ref l2, .int x100]) (h' := h99) rfl ?_
  refine mX_ckc (m := mcl (mE mtab d 302 [.ref l2, .int (gI h99 l0 (ix (l3 + 1)))] h99) 1 826 [some (.ref l0), some (.ref l1), some (.ref l2), some (.int l3)] [.int x100]) rfl ?_
  refine mk_cI ?_
  intro x102 h101
  refine mX_br (t := 1008) (f := 827) (ls' := [some (.ref l0), some (.ref l1), some (.ref l2), some (.int l3)]) (st' := []) (h' := h101) rfl ?_ ?_
  · rfl
  · refine mX_to 1 (k' := 828) (ls' := [some (.ref l0), some (.ref l1), some (.ref l2), some (.int l3)]) (st' := [.int 0]) (h' := h101) rfl ?_
    exact mX_retb (by decide) rfl
set_option maxRecDepth 100000 in
theorem D_L_law_829 (d : Nat) (h : MH) (l0 : Nat) (l1 : Nat) (l2 : Nat) (l3 : Int32) : mX (mE mtab d) KL_law 829 [some (.ref l0), some (.ref l1), some (.ref l2), some (.int l3)] [] h = ck ((kd h l0 = 20 ∨ kd h l0 = 24) ∧ ib (l3 + 1) (ln h l0)) (ck (kd h l1 = 11) (cI (mE mtab d 303 [.ref l1, .int (gI h l0 (ix (l3 + 1)))] h) (fun x104 h103 => ck ((kd h103 l0 = 20 ∨ kd h103 l0 = 24) ∧ ib (l3 + 1) (ln h103 l0)) (ck (kd h103 l2 = 12) (cI (mE mtab d 304 [.ref l2, .int (gI h103 l0 (ix (l3 + 1)))] h103) (fun x106 h105 => (if x104 = x106 then mX (mE mtab d) KL_law 1008 [some (.ref l0), some (.ref l1), some (.ref l2), some (.int l3)] [] h105 else some (.int 0, h105)))))))) := by
  refine mX_to 5 (k' := 834) (ls' := [some (.ref l0), some (.ref l1), some (.ref l2), some (.int l3)]) (st' := [.int (l3 + 1), .ref l0, .ref l1]) (h' := h) rfl ?_
  refine mX_ck (k' := 835) (ls' := [some (.ref l0), some (.ref l1), some (.ref l2), some (.int l3)]) (st' := [.int (gI h l0 (ix (l3 + 1))), .ref l1]) (h' := h) rfl ?_
  refine mX_ckc (m := mcl (mE mtab d 303 [.ref l1, .int (gI h l0 (ix (l3 + 1)))] h) 1 836 [some (.ref l0), some (.ref l1), some (.ref l2), some (.int l3)] []) rfl ?_
  refine mk_cI ?_
  intro x104 h103
  refine mX_to 5 (k' := 841) (ls' := [some (.ref l0), some (.ref l1), some (.ref l2), some (.int l3)]) (st' := [.int (l3 + 1), .ref l0, .ref l2, .int x104]) (h' := h103) rfl ?_
  refine mX_ck (k' := 842) (ls' := [some (.ref l0), some (.ref l1), some (.ref l2), some (.int l3)]) (st' := [.int (gI h103 l0 (ix (l3 + 1))), .ref l2, .int x104]) (h' := h103) rfl ?_
  refine mX_ckc (m := mcl (mE mtab d 304 [.ref l2, .int (gI h103 l0 (ix (l3 + 1)))] h103) 1 843 [some (.ref l0), some (.ref l1), some (.ref l2), some (.int l3)] [.int x104]) rfl ?_
  refine mk_cI ?_
  intro x106 h105
  refine mX_br (t := 1008) (f := 844) (ls' := [some (.ref l0), some (.ref l1), some (.ref l2), some (.int l3)]) (st' := []) (h' := h105) rfl ?_ ?_
  · rfl
  · refine mX_to 1 (k' := 845) (ls' := [some (.ref l0), some (.ref l1), some (.ref l2), some (.int l3)]) (st' := [.int 0]) (h' := h105) rfl ?_
    exact mX_retb (by decide) rfl
set_option maxRecDepth 100000 in
theorem D_L_law_846 (d : Nat) (h : MH) (l0 : Nat) (l1 : Nat) (l2 : Nat) (l3 : Int32) : mX (mE mtab d) KL_law 846 [some (.ref l0), some (.ref l1), some (.ref l2), some (.int l3)] [] h = ck ((kd h l0 = 20 ∨ kd h l0 = 24) ∧ ib (l3 + 1) (ln h l0)) ((if (gI h l0 (ix (l3 + 1))) = 0 then mX (mE mtab d) KL_law 856 [some (.ref l0), some (.ref l1), some (.ref l2), some (.int l3)] [.int 0, .ref l1] h else mX (mE mtab d) KL_law 856 [some (.ref l0), some (.ref l1), some (.ref l2), some (.int l3)] [.int 1, .ref l1] h)) := by
  refine mX_to 5 (k' := 851) (ls' := [some (.ref l0), some (.ref l1), some (.ref l2), some (.int l3)]) (st' := [.int (l3 + 1), .ref l0, .ref l1]) (h' := h) rfl ?_
  refine mX_ck (k' := 852) (ls' := [some (.ref l0), some (.ref l1), some (.ref l2), some (.int l3)]) (st' := [.int (gI h l0 (ix (l3 + 1))), .ref l1]) (h' := h) rfl ?_
  refine mX_br (t := 855) (f := 853) (ls' := [some (.ref l0), some (.ref l1), some (.ref l2), some (.int l3)]) (st' := [.ref l1]) (h' := h) rfl ?_ ?_
  · refine mX_to 1 (k' := 856) (ls' := [some (.ref l0), some (.ref l1), some (.ref l2), some (.int l3)]) (st' := [.int 0, .ref l1]) (h' := h) rfl ?_
    rfl
  · refine mX_to 2 (k' := 856) (ls' := [some (.ref l0), some (.ref l1), some (.ref l2), some (.int l3)]) (st' := [.int 1, .ref l1]) (h' := h) rfl ?_
    rfl
set_option maxRecDepth 100000 in
theorem D_L_law_871 (d : Nat) (h : MH) (l0 : Nat) (l1 : Nat) (l2 : Nat) (l3 : Int32) : mX (mE mtab d) KL_law 871 [some (.ref l0), some (.ref l1), some (.ref l2), some (.int l3)] [] h = ck ((kd h l0 = 20 ∨ kd h l0 = 24) ∧ ib (l3 + 1) (ln h l0)) (ck (kd h l1 = 11) (cI (mE mtab d 309 [.ref l1, .int (gI h l0 (ix (l3 + 1)))] h) (fun x108 h107 => ck ((kd h107 l0 = 20 ∨ kd h107 l0 = 24) ∧ ib (l3 + 1) (ln h107 l0)) (ck (kd h107 l2 = 12) (cI (mE mtab d 310 [.ref l2, .int (gI h107 l0 (ix (l3 + 1)))] h107) (fun x110 h109 => (if x108 = x110 then mX (mE mtab d) KL_law 1008 [some (.ref l0), some (.ref l1), some (.ref l2), some (.int l3)] [] h109 else some (.int 0, h109)))))))) := by
  refine mX_to 5 (k' := 876) (ls' := [some (.ref l0), some (.ref l1), some (.ref l2), some (.int l3)]) (st' := [.int (l3 + 1), .ref l0, .ref l1]) (h' := h) rfl ?_
  refine mX_ck (k' := 877) (ls' := [some (.ref l0), some (.ref l1), some (.ref l2), some (.int l3)]) (st' := [.int (gI h l0 (ix (l3 + 1))), .ref l1]) (h' := h) rfl ?_
  refine mX_ckc (m := mcl (mE mtab d 309 [.ref l1, .int (gI h l0 (ix (l3 + 1)))] h) 1 878 [some (.ref l0), some (.ref l1), some (.ref l2), some (.int l3)] []) rfl ?_
  refine mk_cI ?_
  intro x108 h107
  refine mX_to 5 (k' := 883) (ls' := [some (.ref l0), some (.ref l1), some (.ref l2), some (.int l3)]) (st' := [.int (l3 + 1), .ref l0, .ref l2, .int x108]) (h' := h107) rfl ?_
  refine mX_ck (k' := 884) (ls' := [some (.ref l0), some (.ref l1), some (.ref l2), some (.int l3)]) (st' := [.int (gI h107 l0 (ix (l3 + 1))), .ref l2, .int x108]) (h' := h107) rfl ?_
  refine mX_ckc (m := mcl (mE mtab d 310 [.ref l2, .int (gI h107 l0 (ix (l3 + 1)))] h107) 1 885 [some (.ref l0), some (.ref l1), some (.ref l2), some (.int l3)] [.int x108]) rfl ?_
  refine mk_cI ?_
  intro x110 h109
  refine mX_br (t := 1008) (f := 886) (ls' := [some (.ref l0), some (.ref l1), some (.ref l2), some (.int l3)]) (st' := []) (h' := h109) rfl ?_ ?_
  · rfl
  · refine mX_to 1 (k' := 887) (ls' := [some (.ref l0), some (.ref l1), some (.ref l2), some (.int l3)]) (st' := [.int 0]) (h' := h109) rfl ?_
    exact mX_retb (by decide) rfl
set_option maxRecDepth 100000 in
theorem D_L_law_888 (d : Nat) (h : MH) (l0 : Nat) (l1 : Nat) (l2 : Nat) (l3 : Int32) : mX (mE mtab d) KL_law 888 [some (.ref l0), some (.ref l1), some (.ref l2), some (.int l3)] [] h = ck ((kd h l0 = 20 ∨ kd h l0 = 24) ∧ ib (l3 + 1) (ln h l0)) (ck ((kd h l0 = 20 ∨ kd h l0 = 24) ∧ ib (l3 + 2) (ln h l0)) (ck (kd h l1 = 11) (cI (mE mtab d 312 [.ref l1, .int (gI h l0 (ix (l3 + 1))), .int (gI h l0 (ix (l3 + 2)))] h) (fun x112 h111 => ck ((kd h111 l0 = 20 ∨ kd h111 l0 = 24) ∧ ib (l3 + 1) (ln h111 l0)) (ck ((kd h111 l0 = 20 ∨ kd h111 l0 = 24) ∧ ib (l3 + 2) (ln h111 l0)) (ck (kd h111 l2 = 12) (cI (mE mtab d 313 [.ref l2, .int (gI h111 l0 (ix (l3 + 1))), .int (gI h111 l0 (ix (l3 + 2)))] h111) (fun x114 h113 => (if x112 = x114 then mX (mE mtab d) KL_law 1008 [some (.ref l0), some (.ref l1), some (.ref l2), some (.int l3)] [] h113 else some (.int 0, h113)))))))))) := by
  refine mX_to 5 (k' := 893) (ls' := [some (.ref l0), some (.ref l1), some (.ref l2), some (.int l3)]) (st' := [.int (l3 + 1), .ref l0, .ref l1]) (h' := h) rfl ?_
  refine mX_ck (k' := 894) (ls' := [some (.ref l0), some (.ref l1), some (.ref l2), some (.int l3)]) (st' := [.int (gI h l0 (ix (l3 + 1))), .ref l1]) (h' := h) rfl ?_
  refine mX_to 4 (k' := 898) (ls' := [some (.ref l0), some (.ref l1), some (.ref l2), some (.int l3)]) (st' := [.int (l3 + 2), .ref l0, .int (gI h l0 (ix (l3 + 1))), .ref l1]) (h' := h) rfl ?_
  refine mX_ck (k' := 899) (ls' := [some (.ref l0), some (.ref l1), some (.ref l2), some (.int l3)]) (st' := [.int (gI h l0 (ix (l3 + 2))), .int (gI h l0 (ix (l3 + 1))), .ref l1]) (h' := h) rfl ?_
  refine mX_ckc (m := mcl (mE mtab d 312 [.ref l1, .int (gI h l0 (ix (l3 + 1))), .int (gI h l0 (ix (l3 + 2)))] h) 1 900 [some (.ref l0), some (.ref l1), some (.ref l2), some (.int l3)] []) rfl ?_
  refine mk_cI ?_
  intro x112 h111
  refine mX_to 5 (k' := 905) (ls' := [some (.ref l0), some (.ref l1), some (.ref l2), some (.int l3)]) (st' := [.int (l3 + 1), .ref l0, .ref l2, .int x112]) (h' := h111) rfl ?_
  refine mX_ck (k' := 906) (ls' := [some (.ref l0), some (.ref l1), some (.ref l2), some (.int l3)]) (st' := [.int (gI h111 l0 (ix (l3 + 1))), .ref l2, .int x112]) (h' := h111) rfl ?_
  refine mX_to 4 (k' := 910) (ls' := [some (.ref l0), some (.ref l1), some (.ref l2), some (.int l3)]) (st' := [.int (l3 + 2), .ref l0, .int (gI h111 l0 (ix (l3 + 1))), .ref l2, .int x112]) (h' := h111) rfl ?_
  refine mX_ck (k' := 911) (ls' := [some (.ref l0), some (.ref l1), some (.ref l2), some (.int l3)]) (st' := [.int (gI h111 l0 (ix (l3 + 2))), .int (gI h111 l0 (ix (l3 + 1))), .ref l2, .int x112]) (h' := h111) rfl ?_
  refine mX_ckc (m := mcl (mE mtab d 313 [.ref l2, .int (gI h111 l0 (ix (l3 + 1))), .int (gI h111 l0 (ix (l3 + 2)))] h111) 1 912 [some (.ref l0), some (.ref l1), some (.ref l2), some (.int l3)] [.int x112]) rfl ?_
  refine mk_cI ?_
  intro x114 h113
  refine mX_br (t := 1008) (f := 913) (ls' := [some (.ref l0), some (.ref l1), some (.ref l2), some (.int l3)]) (st' := []) (h' := h113) rfl ?_ ?_
  · rfl
  · refine mX_to 1 (k' := 914) (ls' := [some (.ref l0), some (.ref l1), some (.ref l2), some (.int l3)]) (st' := [.int 0]) (h' := h113) rfl ?_
    exact mX_retb (by decide) rfl
set_option maxRecDepth 100000 in
theorem D_L_law_915 (d : Nat) (h : MH) (l0 : Nat) (l1 : Nat) (l2 : Nat) (l3 : Int32) : mX (mE mtab d) KL_law 915 [some (.ref l0), some (.ref l1), some (.ref l2), some (.int l3)] [] h = ck (kd h l1 = 11) (cI (mE mtab d 315 [.ref l1] h) (fun x116 h115 => ck (kd h115 l2 = 12) (cI (mE mtab d 316 [.ref l2] h115) (fun x118 h117 => (if x116 = x118 then mX (mE mtab d) KL_law 1008 [some (.ref l0), some (.ref l1), some (.ref l2), some (.int l3)] [] h117 else some (.int 0, h117)))))) := by
  refine mX_to 1 (k' := 916) (ls' := [some (.ref l0), some (.ref l1), some (.ref l2), some (.int l3)]) (st' := [.ref l1]) (h' := h) rfl ?_
  refine mX_ckc (m := mcl (mE mtab d 315 [.ref l1] h) 1 917 [some (.ref l0), some (.ref l1), some (.ref l2), some (.int l3)] []) rfl ?_
  refine mk_cI ?_
  intro x116 h115
  refine mX_to 1 (k' := 918) (ls' := [some (.ref l0), some (.ref l1), some (.ref l2), some (.int l3)]) (st' := [.ref l2, .int x116]) (h' := h115) rfl ?_
  refine mX_ckc (m := mcl (mE mtab d 316 [.ref l2] h115) 1 919 [some (.ref l0), some (.ref l1), some (.ref l2), some (.int l3)] [.int x116]) rfl ?_
  refine mk_cI ?_
  intro x118 h117
  refine mX_br (t := 1008) (f := 920) (ls' := [some (.ref l0), some (.ref l1), some (.ref l2), some (.int l3)]) (st' := []) (h' := h117) rfl ?_ ?_
  · rfl
  · refine mX_to 1 (k' := 921) (ls' := [some (.ref l0), some (.ref l1), some (.ref l2), some (.int l3)]) (st' := [.int 0]) (h' := h117) rfl ?_
    exact mX_retb (by decide) rfl
set_option maxRecDepth 100000 in
theorem D_L_law_922 (d : Nat) (h : MH) (l0 : Nat) (l1 : Nat) (l2 : Nat) (l3 : Int32) : mX (mE mtab d) KL_law 922 [some (.ref l0), some (.ref l1), some (.ref l2), some (.int l3)] [] h = ck ((kd h l0 = 20 ∨ kd h l0 = 24) ∧ ib (l3 + 1) (ln h l0)) (ck (kd h l1 = 11) (cI (mE mtab d 317 [.ref l1, .int (gI h l0 (ix (l3 + 1)))] h) (fun x120 h119 => ck ((kd h119 l0 = 20 ∨ kd h119 l0 = 24) ∧ ib (l3 + 1) (ln h119 l0)) (ck (kd h119 l2 = 12) (cI (mE mtab d 318 [.ref l2, .int (gI h119 l0 (ix (l3 + 1)))] h119) (fun x122 h121 => (if x120 = x122 then mX (mE mtab d) KL_law 1008 [some (.ref l0), some (.ref l1), some (.ref l2), some (.int l3)] [] h121 else some (.int 0, h121)))))))) := by
  refine mX_to 5 (k' := 927) (ls' := [some (.ref l0), some (.ref l1), some (.ref l2), some (.int l3)]) (st' := [.int (l3 + 1), .ref l0, .ref l1]) (h' := h) rfl ?_
  refine mX_ck (k' := 928) (ls' := [some (.ref l0), some (.ref l1), some (.ref l2), some (.int l3)]) (st' := [.int (gI h l0 (ix (l3 + 1))), .ref l1]) (h' := h) rfl ?_
  refine mX_ckc (m := mcl (mE mtab d 317 [.ref l1, .int (gI h l0 (ix (l3 + 1)))] h) 1 929 [some (.ref l0), some (.ref l1), some (.ref l2), some (.int l3)] []) rfl ?_
  refine mk_cI ?_
  intro x120 h119
  refine mX_to 5 (k' := 934) (ls' := [some (.ref l0), some (.ref l1), some (.ref l2), some (.int l3)]) (st' := [.int (l3 + 1), .ref l0, .ref l2, .int x120]) (h' := h119) rfl ?_
  refine mX_ck (k' := 935) (ls' := [some (.ref l0), some (.ref l1), some (.ref l2), some (.int l3)]) (st' := [.int (gI h119 l0 (ix (l3 + 1))), .ref l2, .int x120]) (h' := h119) rfl ?_
  refine mX_ckc (m := mcl (mE mtab d 318 [.ref l2, .int (gI h119 l0 (ix (l3 + 1)))] h119) 1 936 [some (.ref l0), some (.ref l1), some (.ref l2), some (.int l3)] [.int x120]) rfl ?_
  refine mk_cI ?_
  intro x122 h121
  refine mX_br (t := 1008) (f := 937) (ls' := [some (.ref l0), some (.ref l1), some (.ref l2), some (.int l3)]) (st' := []) (h' := h121) rfl ?_ ?_
  · rfl
  · refine mX_to 1 (k' := 938) (ls' := [some (.ref l0), some (.ref l1), some (.ref l2), some (.int l3)]) (st' := [.int 0]) (h' := h121) rfl ?_
    exact mX_retb (by decide) rfl
set_option maxRecDepth 100000 in
theorem D_L_law_939 (d : Nat) (h : MH) (l0 : Nat) (l1 : Nat) (l2 : Nat) (l3 : Int32) : mX (mE mtab d) KL_law 939 [some (.ref l0), some (.ref l1), some (.ref l2), some (.int l3)] [] h = ck (kd h l1 = 11) (cI (mE mtab d 319 [.ref l1] h) (fun x124 h123 => ck (kd h123 l2 = 12) (cI (mE mtab d 320 [.ref l2] h123) (fun x126 h125 => (if x124 = x126 then mX (mE mtab d) KL_law 1008 [some (.ref l0), some (.ref l1), some (.ref l2), some (.int l3)] [] h125 else some (.int 0, h125)))))) := by
  refine mX_to 1 (k' := 940) (ls' := [some (.ref l0), some (.ref l1), some (.ref l2), some (.int l3)]) (st' := [.ref l1]) (h' := h) rfl ?_
  refine mX_ckc (m := mcl (mE mtab d 319 [.ref l1] h) 1 941 [some (.ref l0), some (.ref l1), some (.ref l2), some (.int l3)] []) rfl ?_
  refine mk_cI ?_
  intro x124 h123
  refine mX_to 1 (k' := 942) (ls' := [some (.ref l0), some (.ref l1), some (.ref l2), some (.int l3)]) (st' := [.ref l2, .int x124]) (h' := h123) rfl ?_
  refine mX_ckc (m := mcl (mE mtab d 320 [.ref l2] h123) 1 943 [some (.ref l0), some (.ref l1), some (.ref l2), some (.int l3)] [.int x124]) rfl ?_
  refine mk_cI ?_
  intro x126 h125
  refine mX_br (t := 1008) (f := 944) (ls' := [some (.ref l0), some (.ref l1), some (.ref l2), some (.int l3)]) (st' := []) (h' := h125) rfl ?_ ?_
  · rfl
  · refine mX_to 1 (k' := 945) (ls' := [some (.ref l0), some (.ref l1), some (.ref l2), some (.int l3)]) (st' := [.int 0]) (h' := h125) rfl ?_
    exact mX_retb (by decide) rfl
set_option maxRecDepth 100000 in
theorem D_L_law_946 (d : Nat) (h : MH) (l0 : Nat) (l1 : Nat) (l2 : Nat) (l3 : Int32) : mX (mE mtab d) KL_law 946 [some (.ref l0), some (.ref l1), some (.ref l2), some (.int l3)] [] h = ck (kd h l1 = 11) (cI (mE mtab d 321 [.ref l1] h) (fun x128 h127 => ck (kd h127 l2 = 12) (cI (mE mtab d 322 [.ref l2] h127) (fun x130 h129 => (if x128 = x130 then mX (mE mtab d) KL_law 1008 [some (.ref l0), some (.ref l1), some (.ref l2), some (.int l3)] [] h129 else some (.int 0, h129)))))) := by
  refine mX_to 1 (k' := 947) (ls' := [some (.ref l0), some (.ref l1), some (.ref l2), some (.int l3)]) (st' := [.ref l1]) (h' := h) rfl ?_
  refine mX_ckc (m := mcl (mE mtab d 321 [.ref l1] h) 1 948 [some (.ref l0), some (.ref l1), some (.ref l2), some (.int l3)] []) rfl ?_
  refine mk_cI ?_
  intro x128 h127
  refine mX_to 1 (k' := 949) (ls' := [some (.ref l0), some (.ref l1), some (.ref l2), some (.int l3)]) (st' := [.ref l2, .int x128]) (h' := h127) rfl ?_
  refine mX_ckc (m := mcl (mE mtab d 322 [.ref l2] h127) 1 950 [some (.ref l0), some (.ref l1), some (.ref l2), some (.int l3)] [.int x128]) rfl ?_
  refine mk_cI ?_
  intro x130 h129
  refine mX_br (t := 1008) (f := 951) (ls' := [some (.ref l0), some (.ref l1), some (.ref l2), some (.int l3)]) (st' := []) (h' := h129) rfl ?_ ?_
  · rfl
  · refine mX_to 1 (k' := 952) (ls' := [some (.ref l0), some (.ref l1), some (.ref l2), some (.int l3)]) (st' := [.int 0]) (h' := h129) rfl ?_
    exact mX_retb (by decide) rfl
set_option maxRecDepth 100000 in
theorem D_L_law_953 (d : Nat) (h : MH) (l0 : Nat) (l1 : Nat) (l2 : Nat) (l3 : Int32) : mX (mE mtab d) KL_law 953 [some (.ref l0), some (.ref l1), some (.ref l2), some (.int l3)] [] h = ck (kd h l1 = 11) (cI (mE mtab d 324 [.ref l1] h) (fun x132 h131 => ck (kd h131 l2 = 12) (cI (mE mtab d 326 [.ref l2] h131) (fun x134 h133 => (if x132 = x134 then mX (mE mtab d) KL_law 1008 [some (.ref l0), some (.ref l1), some (.ref l2), some (.int l3)] [] h133 else some (.int 0, h133)))))) := by
  refine mX_to 1 (k' := 954) (ls' := [some (.ref l0), some (.ref l1), some (.ref l2), some (.int l3)]) (st' := [.ref l1]) (h' := h) rfl ?_
  refine mX_ckc (m := mcl (mE mtab d 324 [.ref l1] h) 1 955 [some (.ref l0), some (.ref l1), some (.ref l2), some (.int l3)] []) rfl ?_
  refine mk_cI ?_
  intro x132 h131
  refine mX_to 1 (k' := 956) (ls' := [some (.ref l0), some (.ref l1), some (.ref l2), some (.int l3)]) (st' := [.ref l2, .int x132]) (h' := h131) rfl ?_
  refine mX_ckc (m := mcl (mE mtab d 326 [.ref l2] h131) 1 957 [some (.ref l0), some (.ref l1), some (.ref l2), some (.int l3)] [.int x132]) rfl ?_
  refine mk_cI ?_
  intro x134 h133
  refine mX_br (t := 1008) (f := 958) (ls' := [some (.ref l0), some (.ref l1), some (.ref l2), some (.int l3)]) (st' := []) (h' := h133) rfl ?_ ?_
  · rfl
  · refine mX_to 1 (k' := 959) (ls' := [some (.ref l0), some (.ref l1), some (.ref l2), some (.int l3)]) (st' := [.int 0]) (h' := h133) rfl ?_
    exact mX_retb (by decide) rfl
set_option maxRecDepth 100000 in
theorem D_L_law_960 (d : Nat) (h : MH) (l0 : Nat) (l1 : Nat) (l2 : Nat) (l3 : Int32) : mX (mE mtab d) KL_law 960 [some (.ref l0), some (.ref l1), some (.ref l2), some (.int l3)] [] h = ck ((kd h l0 = 20 ∨ kd h l0 = 24) ∧ ib (l3 + 1) (ln h l0)) (ck (kd h l1 = 11) (cI (mE mtab d 327 [.ref l1, .int (gI h l0 (ix (l3 + 1)))] h) (fun x136 h135 => ck ((kd h135 l0 = 20 ∨ kd h135 l0 = 24) ∧ ib (l3 + 1) (ln h135 l0)) (ck (kd h135 l2 = 12) (cI (mE mtab d 328 [.ref l2, .int (gI h135 l0 (ix (l3 + 1)))] h135) (fun x138 h137 => (if x136 = x138 then mX (mE mtab d) KL_law 1008 [some (.ref l0), some (.ref l1), some (.ref l2), some (.int l3)] [] h137 else some (.int 0, h137)))))))) := by
  refine mX_to 5 (k' := 965) (ls' := [some (.ref l0), some (.ref l1), some (.ref l2), some (.int l3)]) (st' := [.int (l3 + 1), .ref l0, .ref l1]) (h' := h) rfl ?_
  refine mX_ck (k' := 966) (ls' := [some (.ref l0), some (.ref l1), some (.ref l2), some (.int l3)]) (st' := [.int (gI h l0 (ix (l3 + 1))), .ref l1]) (h' := h) rfl ?_
  refine mX_ckc (m := mcl (mE mtab d 327 [.ref l1, .int (gI h l0 (ix (l3 + 1)))] h) 1 967 [some (.ref l0), some (.ref l1), some (.ref l2), some (.int l3)] []) rfl ?_
  refine mk_cI ?_
  intro x136 h135
  refine mX_to 5 (k' := 972) (ls' := [some (.ref l0), some (.ref l1), some (.ref l2), some (.int l3)]) (st' := [.int (l3 + 1), .ref l0, .ref l2, .int x136]) (h' := h135) rfl ?_
  refine mX_ck (k' := 973) (ls' := [some (.ref l0), some (.ref l1), some (.ref l2), some (.int l3)]) (st' := [.int (gI h135 l0 (ix (l3 + 1))), .ref l2, .int x136]) (h' := h135) rfl ?_
  refine mX_ckc (m := mcl (mE mtab d 328 [.ref l2, .int (gI h135 l0 (ix (l3 + 1)))] h135) 1 974 [some (.ref l0), some (.ref l1), some (.ref l2), some (.int l3)] [.int x136]) rfl ?_
  refine mk_cI ?_
  intro x138 h137
  refine mX_br (t := 1008) (f := 975) (ls' := [some (.ref l0), some (.ref l1), some (.ref l2), some (.int l3)]) (st' := []) (h' := h137) rfl ?_ ?_
  · rfl
  · refine mX_to 1 (k' := 976) (ls' := [some (.ref l0), some (.ref l1), some (.ref l2), some (.int l3)]) (st' := [.int 0]) (h' := h137) rfl ?_
    exact mX_retb (by decide) rfl
set_option maxRecDepth 100000 in
theorem D_L_law_977 (d : Nat) (h : MH) (l0 : Nat) (l1 : Nat) (l2 : Nat) (l3 : Int32) : mX (mE mtab d) KL_law 977 [some (.ref l0), some (.ref l1), some (.ref l2), some (.int l3)] [] h = ck (kd h l1 = 11) (cI (mE mtab d 332 [.ref l1] h) (fun x140 h139 => ck (kd h139 l2 = 12) (cI (mE mtab d 333 [.ref l2] h139) (fun x142 h141 => (if x140 = x142 then mX (mE mtab d) KL_law 1008 [some (.ref l0), some (.ref l1), some (.ref l2), some (.int l3)] [] h141 else some (.int 0, h141)))))) := by
  refine mX_to 1 (k' := 978) (ls' := [some (.ref l0), some (.ref l1), some (.ref l2), some (.int l3)]) (st' := [.ref l1]) (h' := h) rfl ?_
  refine mX_ckc (m := mcl (mE mtab d 332 [.ref l1] h) 1 979 [some (.ref l0), some (.ref l1), some (.ref l2), some (.int l3)] []) rfl ?_
  refine mk_cI ?_
  intro x140 h139
  refine mX_to 1 (k' := 980) (ls' := [some (.ref l0), some (.ref l1), some (.ref l2), some (.int l3)]) (st' := [.ref l2, .int x140]) (h' := h139) rfl ?_
  refine mX_ckc (m := mcl (mE mtab d 333 [.ref l2] h139) 1 981 [some (.ref l0), some (.ref l1), some (.ref l2), some (.int l3)] [.int x140]) rfl ?_
  refine mk_cI ?_
  intro x142 h141
  refine mX_br (t := 1008) (f := 982) (ls' := [some (.ref l0), some (.ref l1), some (.ref l2), some (.int l3)]) (st' := []) (h' := h141) rfl ?_ ?_
  · rfl
  · refine mX_to 1 (k' := 983) (ls' := [some (.ref l0), some (.ref l1), some (.ref l2), some (.int l3)]) (st' := [.int 0]) (h' := h141) rfl ?_
    exact mX_retb (by decide) rfl
set_option maxRecDepth 100000 in
theorem D_L_law_984 (d : Nat) (h : MH) (l0 : Nat) (l1 : Nat) (l2 : Nat) (l3 : Int32) : mX (mE mtab d) KL_law 984 [some (.ref l0), some (.ref l1), some (.ref l2), some (.int l3)] [] h = ck (kd h l1 = 11) (cI (mE mtab d 334 [.ref l1] h) (fun x144 h143 => ck (kd h143 l2 = 12) (cI (mE mtab d 335 [.ref l2] h143) (fun x146 h145 => (if x144 = x146 then mX (mE mtab d) KL_law 1008 [some (.ref l0), some (.ref l1), some (.ref l2), some (.int l3)] [] h145 else some (.int 0, h145)))))) := by
  refine mX_to 1 (k' := 985) (ls' := [some (.ref l0), some (.ref l1), some (.ref l2), some (.int l3)]) (st' := [.ref l1]) (h' := h) rfl ?_
  refine mX_ckc (m := mcl (mE mtab d 334 [.ref l1] h) 1 986 [some (.ref l0), some (.ref l1), some (.ref l2), some (.int l3)] []) rfl ?_
  refine mk_cI ?_
  intro x144 h143
  refine mX_to 1 (k' := 987) (ls' := [some (.ref l0), some (.ref l1), some (.ref l2), some (.int l3)]) (st' := [.ref l2, .int x144]) (h' := h143) rfl ?_
  refine mX_ckc (m := mcl (mE mtab d 335 [.ref l2] h143) 1 988 [some (.ref l0), some (.ref l1), some (.ref l2), some (.int l3)] [.int x144]) rfl ?_
  refine mk_cI ?_
  intro x146 h145
  refine mX_br (t := 1008) (f := 989) (ls' := [some (.ref l0), some (.ref l1), some (.ref l2), some (.int l3)]) (st' := []) (h' := h145) rfl ?_ ?_
  · rfl
  · refine mX_to 1 (k' := 990) (ls' := [some (.ref l0), some (.ref l1), some (.ref l2), some (.int l3)]) (st' := [.int 0]) (h' := h145) rfl ?_
    exact mX_retb (by decide) rfl
set_option maxRecDepth 100000 in
theorem D_L_law_991 (d : Nat) (h : MH) (l0 : Nat) (l1 : Nat) (l2 : Nat) (l3 : Int32) : mX (mE mtab d) KL_law 991 [some (.ref l0), some (.ref l1), some (.ref l2), some (.int l3)] [] h = ck ((kd h l0 = 20 ∨ kd h l0 = 24) ∧ ib (l3 + 1) (ln h l0)) (ck (kd h l1 = 11) (cI (mE mtab d 336 [.ref l1, .int (gI h l0 (ix (l3 + 1)))] h) (fun x148 h147 => ck ((kd h147 l0 = 20 ∨ kd h147 l0 = 24) ∧ ib (l3 + 1) (ln h147 l0)) (ck (kd h147 l2 = 12) (cI (mE mtab d 337 [.ref l2, .int (gI h147 l0 (ix (l3 + 1)))] h147) (fun x150 h149 => (if x148 = x150 then mX (mE mtab d) KL_law 1008 [some (.ref l0), some (.ref l1), some (.ref l2), some (.int l3)] [] h149 else some (.int 0, h149)))))))) := by
  refine mX_to 5 (k' := 996) (ls' := [some (.ref l0), some (.ref l1), some (.ref l2), some (.int l3)]) (st' := [.int (l3 + 1), .ref l0, .ref l1]) (h' := h) rfl ?_
  refine mX_ck (k' := 997) (ls' := [some (.ref l0), some (.ref l1), some (.ref l2), some (.int l3)]) (st' := [.int (gI h l0 (ix (l3 + 1))), .ref l1]) (h' := h) rfl ?_
  refine mX_ckc (m := mcl (mE mtab d 336 [.ref l1, .int (gI h l0 (ix (l3 + 1)))] h) 1 998 [some (.ref l0), some (.ref l1), some (.ref l2), some (.int l3)] []) rfl ?_
  refine mk_cI ?_
  intro x148 h147
  refine mX_to 5 (k' := 1003) (ls' := [some (.ref l0), some (.ref l1), some (.ref l2), some (.int l3)]) (st' := [.int (l3 + 1), .ref l0, .ref l2, .int x148]) (h' := h147) rfl ?_
  refine mX_ck (k' := 1004) (ls' := [some (.ref l0), some (.ref l1), some (.ref l2), some (.int l3)]) (st' := [.int (gI h147 l0 (ix (l3 + 1))), .ref l2, .int x148]) (h' := h147) rfl ?_
  refine mX_ckc (m := mcl (mE mtab d 337 [.ref l2, .int (gI h147 l0 (ix (l3 + 1)))] h147) 1 1005 [some (.ref l0), some (.ref l1), some (.ref l2), some (.int l3)] [.int x148]) rfl ?_
  refine mk_cI ?_
  intro x150 h149
  refine mX_br (t := 1008) (f := 1006) (ls' := [some (.ref l0), some (.ref l1), some (.ref l2), some (.int l3)]) (st' := []) (h' := h149) rfl ?_ ?_
  · rfl
  · refine mX_to 1 (k' := 1007) (ls' := [some (.ref l0), some (.ref l1), some (.ref l2), some (.int l3)]) (st' := [.int 0]) (h' := h149) rfl ?_
    exact mX_retb (by decide) rfl
set_option maxRecDepth 100000 in
theorem D_L_law_1008 (d : Nat) (h : MH) (l0 : Nat) (l1 : Nat) (l2 : Nat) (l3 : Int32) : mX (mE mtab d) KL_law 1008 [some (.ref l0), some (.ref l1), some (.ref l2), some (.int l3)] [] h = mX (mE mtab d) KL_law 10 [some (.ref l0), some (.ref l1), some (.ref l2), some (.int (l3 + 6))] [] h := by
  refine mX_to 2 (k' := 10) (ls' := [some (.ref l0), some (.ref l1), some (.ref l2), some (.int (l3 + 6))]) (st' := []) (h' := h) rfl ?_
  rfl
set_option maxRecDepth 100000 in
theorem D_L_law_233 (d : Nat) (h : MH) (l0 : Nat) (l1 : Nat) (l2 : Nat) (l3 : Int32) (s0 : Int32) (s1 : Int32) (s2 : Nat) : mX (mE mtab d) KL_law 233 [some (.ref l0), some (.ref l1), some (.ref l2), some (.int l3)] [.int s0, .int s1, .ref s2] h = ck (kd h s2 = 11) (cI (mE mtab d 150 [.ref s2, .int s1, .int s0] h) (fun x153 h152 => ck ((kd h152 l0 = 20 ∨ kd h152 l0 = 24) ∧ ib (l3 + 1) (ln h152 l0)) (ck ((kd h152 l0 = 20 ∨ kd h152 l0 = 24) ∧ ib (l3 + 2) (ln h152 l0)) ((if (gI h152 l0 (ix (l3 + 2))) = 0 then mX (mE mtab d) KL_law 249 [some (.ref l0), some (.ref l1), some (.ref l2), some (.int l3)] [.int 0, .int (gI h152 l0 (ix (l3 + 1))), .ref l2, .int x153] h152 else mX (mE mtab d) KL_law 249 [some (.ref l0), some (.ref l1), some (.ref l2), some (.int l3)] [.int 1, .int (gI h152 l0 (ix (l3 + 1))), .ref l2, .int x153] h152))))) := by
  refine mX_ckc (m := mcl (mE mtab d 150 [.ref s2, .int s1, .int s0] h) 1 234 [some (.ref l0), some (.ref l1), some (.ref l2), some (.int l3)] []) rfl ?_
  refine mk_cI ?_
  intro x153 h152
  refine mX_to 5 (k' := 239) (ls' := [some (.ref l0), some (.ref l1), some (.ref l2), some (.int l3)]) (st' := [.int (l3 + 1), .ref l0, .ref l2, .int x153]) (h' := h152) rfl ?_
  refine mX_ck (k' := 240) (ls' := [some (.ref l0), some (.ref l1), some (.ref l2), some (.int l3)]) (st' := [.int (gI h152 l0 (ix (l3 + 1))), .ref l2, .int x153]) (h' := h152) rfl ?_
  refine mX_to 4 (k' := 244) (ls' := [some (.ref l0), some (.ref l1), some (.ref l2), some (.int l3)]) (st' := [.int (l3 + 2), .ref l0, .int (gI h152 l0 (ix (l3 + 1))), .ref l2, .int x153]) (h' := h152) rfl ?_
  refine mX_ck (k' := 245) (ls' := [some (.ref l0), some (.ref l1), some (.ref l2), some (.int l3)]) (st' := [.int (gI h152 l0 (ix (l3 + 2))), .int (gI h152 l0 (ix (l3 + 1))), .ref l2, .int x153]) (h' := h152) rfl ?_
  refine mX_br (t := 248) (f := 246) (ls' := [some (.ref l0), some (.ref l1), some (.ref l2), some (.int l3)]) (st' := [.int (gI h152 l0 (ix (l3 + 1))), .ref l2, .int x153]) (h' := h152) rfl ?_ ?_
  · refine mX_to 1 (k' := 249) (ls' := [some (.ref l0), some (.ref l1), some (.ref l2), some (.int l3)]) (st' := [.int 0, .int (gI h152 l0 (ix (l3 + 1))), .ref l2, .int x153]) (h' := h152) rfl ?_
    rfl
  · refine mX_to 2 (k' := 249) (ls' := [some (.ref l0), some (.ref l1), some (.ref l2), some (.int l3)]) (st' := [.int 1, .int (gI h152 l0 (ix (l3 + 1))), .ref l2, .int x153]) (h' := h152) rfl ?_
    rfl
set_option maxRecDepth 100000 in
theorem D_L_law_268 (d : Nat) (h : MH) (l0 : Nat) (l1 : Nat) (l2 : Nat) (l3 : Int32) (s0 : Int32) (s1 : Int32) (s2 : Nat) : mX (mE mtab d) KL_law 268 [some (.ref l0), some (.ref l1), some (.ref l2), some (.int l3)] [.int s0, .int s1, .ref s2] h = ck ((kd h l0 = 20 ∨ kd h l0 = 24) ∧ ib (l3 + 3) (ln h l0)) (ck ((kd h l0 = 20 ∨ kd h l0 = 24) ∧ ib (l3 + 4) (ln h l0)) ((if (gI h l0 (ix (l3 + 4))) = 0 then mX (mE mtab d) KL_law 282 [some (.ref l0), some (.ref l1), some (.ref l2), some (.int l3)] [.int 0, .int (gI h l0 (ix (l3 + 3))), .int s0, .int s1, .ref s2] h else mX (mE mtab d) KL_law 282 [some (.ref l0), some (.ref l1), some (.ref l2), some (.int l3)] [.int 1, .int (gI h l0 (ix (l3 + 3))), .int s0, .int s1, .ref s2] h))) := by
  refine mX_to 4 (k' := 272) (ls' := [some (.ref l0), some (.ref l1), some (.ref l2), some (.int l3)]) (st' := [.int (l3 + 3), .ref l0, .int s0, .int s1, .ref s2]) (h' := h) rfl ?_
  refine mX_ck (k' := 273) (ls' := [some (.ref l0), some (.ref l1), some (.ref l2), some (.int l3)]) (st' := [.int (gI h l0 (ix (l3 + 3))), .int s0, .int s1, .ref s2]) (h' := h) rfl ?_
  refine mX_to 4 (k' := 277) (ls' := [some (.ref l0), some (.ref l1), some (.ref l2), some (.int l3)]) (st' := [.int (l3 + 4), .ref l0, .int (gI h l0 (ix (l3 + 3))), .int s0, .int s1, .ref s2]) (h' := h) rfl ?_
  refine mX_ck (k' := 278) (ls' := [some (.ref l0), some (.ref l1), some (.ref l2), some (.int l3)]) (st' := [.int (gI h l0 (ix (l3 + 4))), .int (gI h l0 (ix (l3 + 3))), .int s0, .int s1, .ref s2]) (h' := h) rfl ?_
  refine mX_br (t := 281) (f := 279) (ls' := [some (.ref l0), some (.ref l1), some (.ref l2), some (.int l3)]) (st' := [.int (gI h l0 (ix (l3 + 3))), .int s0, .int s1, .ref s2]) (h' := h) rfl ?_ ?_
  · refine mX_to 1 (k' := 282) (ls' := [some (.ref l0), some (.ref l1), some (.ref l2), some (.int l3)]) (st' := [.int 0, .int (gI h l0 (ix (l3 + 3))), .int s0, .int s1, .ref s2]) (h' := h) rfl ?_
    rfl
  · refine mX_to 2 (k' := 282) (ls' := [some (.ref l0), some (.ref l1), some (.ref l2), some (.int l3)]) (st' := [.int 1, .int (gI h l0 (ix (l3 + 3))), .int s0, .int s1, .ref s2]) (h' := h) rfl ?_
    rfl
set_option maxRecDepth 100000 in
theorem D_L_law_573 (d : Nat) (h : MH) (l0 : Nat) (l1 : Nat) (l2 : Nat) (l3 : Int32) (s0 : Int32) (s1 : Nat) : mX (mE mtab d) KL_law 573 [some (.ref l0), some (.ref l1), some (.ref l2), some (.int l3)] [.int s0, .ref s1] h = ck ((kd h l0 = 20 ∨ kd h l0 = 24) ∧ ib (l3 + 2) (ln h l0)) (ck (kd h s1 = 11) (cI (mE mtab d 242 [.ref s1, .int s0, .int (gI h l0 (ix (l3 + 2)))] h) (fun x155 h154 => ck ((kd h154 l0 = 20 ∨ kd h154 l0 = 24) ∧ ib (l3 + 1) (ln h154 l0)) ((if (gI h154 l0 (ix (l3 + 1))) = 0 then mX (mE mtab d) KL_law 589 [some (.ref l0), some (.ref l1), some (.ref l2), some (.int l3)] [.int 0, .ref l2, .int x155] h154 else mX (mE mtab d) KL_law 589 [some (.ref l0), some (.ref l1), some (.ref l2), some (.int l3)] [.int 1, .ref l2, .int x155] h154))))) := by
  refine mX_to 4 (k' := 577) (ls' := [some (.ref l0), some (.ref l1), some (.ref l2), some (.int l3)]) (st' := [.int (l3 + 2), .ref l0, .int s0, .ref s1]) (h' := h) rfl ?_
  refine mX_ck (k' := 578) (ls' := [some (.ref l0), some (.ref l1), some (.ref l2), some (.int l3)]) (st' := [.int (gI h l0 (ix (l3 + 2))), .int s0, .ref s1]) (h' := h) rfl ?_
  refine mX_ckc (m := mcl (mE mtab d 242 [.ref s1, .int s0, .int (gI h l0 (ix (l3 + 2)))] h) 1 579 [some (.ref l0), some (.ref l1), some (.ref l2), some (.int l3)] []) rfl ?_
  refine mk_cI ?_
  intro x155 h154
  refine mX_to 5 (k' := 584) (ls' := [some (.ref l0), some (.ref l1), some (.ref l2), some (.int l3)]) (st' := [.int (l3 + 1), .ref l0, .ref l2, .int x155]) (h' := h154) rfl ?_
  refine mX_ck (k' := 585) (ls' := [some (.ref l0), some (.ref l1), some (.ref l2), some (.int l3)]) (st' := [.int (gI h154 l0 (ix (l3 + 1))), .ref l2, .int x155]) (h' := h154) rfl ?_
  refine mX_br (t := 588) (f := 586) (ls' := [some (.ref l0), some (.ref l1), some (.ref l2), some (.int l3)]) (st' := [.ref l2, .int x155]) (h' := h154) rfl ?_ ?_
  · refine mX_to 1 (k' := 589) (ls' := [some (.ref l0), some (.ref l1), some (.ref l2), some (.int l3)]) (st' := [.int 0, .ref l2, .int x155]) (h' := h154) rfl ?_
    rfl
  · refine mX_to 2 (k' := 589) (ls' := [some (.ref l0), some (.ref l1), some (.ref l2), some (.int l3)]) (st' := [.int 1, .ref l2, .int x155]) (h' := h154) rfl ?_
    rfl
set_option maxRecDepth 100000 in
theorem D_L_law_608 (d : Nat) (h : MH) (l0 : Nat) (l1 : Nat) (l2 : Nat) (l3 : Int32) (s0 : Int32) (s1 : Nat) : mX (mE mtab d) KL_law 608 [some (.ref l0), some (.ref l1), some (.ref l2), some (.int l3)] [.int s0, .ref s1] h = ck (kd h s1 = 11) (cI (mE mtab d 255 [.ref s1, .int s0] h) (fun x157 h156 => ck ((kd h156 l0 = 20 ∨ kd h156 l0 = 24) ∧ ib (l3 + 1) (ln h156 l0)) ((if (gI h156 l0 (ix (l3 + 1))) = 0 then mX (mE mtab d) KL_law 619 [some (.ref l0), some (.ref l1), some (.ref l2), some (.int l3)] [.int 0, .ref l2, .int x157] h156 else mX (mE mtab d) KL_law 619 [some (.ref l0), some (.ref l1), some (.ref l2), some (.int l3)] [.int 1, .ref l2, .int x157] h156)))) := by
  refine mX_ckc (m := mcl (mE mtab d 255 [.ref s1, .int s0] h) 1 609 [some (.ref l0), some (.ref l1), some (.ref l2), some (.int l3)] []) rfl ?_
  refine mk_cI ?_
  intro x157 h156
  refine mX_to 5 (k' := 614) (ls' := [some (.ref l0), some (.ref l1), some (.ref l2), some (.int l3)]) (st' := [.int (l3 + 1), .ref l0, .ref l2, .int x157]) (h' := h156) rfl ?_
  refine mX_ck (k' := 615) (ls' := [some (.ref l0), some (.ref l1), some (.ref l2), some (.int l3)]) (st' := [.int (gI h156 l0 (ix (l3 + 1))), .ref l2, .int x157]) (h' := h156) rfl ?_
  refine mX_br (t := 618) (f := 616) (ls' := [some (.ref l0), some (.ref l1), some (.ref l2), some (.int l3)]) (st' := [.ref l2, .int x157]) (h' := h156) rfl ?_ ?_
  · refine mX_to 1 (k' := 619) (ls' := [some (.ref l0), some (.ref l1), some (.ref l2), some (.int l3)]) (st' := [.int 0, .ref l2, .int x157]) (h' := h156) rfl ?_
    rfl
  · refine mX_to 2 (k' := 619) (ls' := [some (.ref l0), some (.ref l1), some (.ref l2), some (.int l3)]) (st' := [.int 1, .ref l2, .int x157]) (h' := h156) rfl ?_
    rfl
set_option maxRecDepth 100000 in
theorem D_L_law_633 (d : Nat) (h : MH) (l0 : Nat) (l1 : Nat) (l2 : Nat) (l3 : Int32) (s0 : Int32) (s1 : Nat) : mX (mE mtab d) KL_law 633 [some (.ref l0), some (.ref l1), some (.ref l2), some (.int l3)] [.int s0, .ref s1] h = ck (kd h s1 = 11) (cI (mE mtab d 264 [.ref s1, .int s0] h) (fun x159 h158 => ck ((kd h158 l0 = 20 ∨ kd h158 l0 = 24) ∧ ib (l3 + 1) (ln h158 l0)) ((if (gI h158 l0 (ix (l3 + 1))) = 0 then mX (mE mtab d) KL_law 644 [some (.ref l0), some (.ref l1), some (.ref l2), some (.int l3)] [.int 0, .ref l2, .int x159] h158 else mX (mE mtab d) KL_law 644 [some (.ref l0), some (.ref l1), some (.ref l2), some (.int l3)] [.int 1, .ref l2, .int x159] h158)))) := by
  refine mX_ckc (m := mcl (mE mtab d 264 [.ref s1, .int s0] h) 1 634 [some (.ref l0), some (.ref l1), some (.ref l2), some (.int l3)] []) rfl ?_
  refine mk_cI ?_
  intro x159 h158
  refine mX_to 5 (k' := 639) (ls' := [some (.ref l0), some (.ref l1), some (.ref l2), some (.int l3)]) (st' := [.int (l3 + 1), .ref l0, .ref l2, .int x159]) (h' := h158) rfl ?_
  refine mX_ck (k' := 640) (ls' := [some (.ref l0), some (.ref l1), some (.ref l2), some (.int l3)]) (st' := [.int (gI h158 l0 (ix (l3 + 1))), .ref l2, .int x159]) (h' := h158) rfl ?_
  refine mX_br (t := 643) (f := 641) (ls' := [some (.ref l0), some (.ref l1), some (.ref l2), some (.int l3)]) (st' := [.ref l2, .int x159]) (h' := h158) rfl ?_ ?_
  · refine mX_to 1 (k' := 644) (ls' := [some (.ref l0), some (.ref l1), some (.ref l2), some (.int l3)]) (st' := [.int 0, .ref l2, .int x159]) (h' := h158) rfl ?_
    rfl
  · refine mX_to 2 (k' := 644) (ls' := [some (.ref l0), some (.ref l1), some (.ref l2), some (.int l3)]) (st' := [.int 1, .ref l2, .int x159]) (h' := h158) rfl ?_
    rfl
set_option maxRecDepth 100000 in
theorem D_L_law_702 (d : Nat) (h : MH) (l0 : Nat) (l1 : Nat) (l2 : Nat) (l3 : Int32) (s0 : Int32) (s1 : Nat) : mX (mE mtab d) KL_law 702 [some (.ref l0), some (.ref l1), some (.ref l2), some (.int l3)] [.int s0, .ref s1] h = ck (kd h s1 = 11) (cI (mE mtab d 280 [.ref s1, .int s0] h) (fun x161 h160 => ck ((kd h160 l0 = 20 ∨ kd h160 l0 = 24) ∧ ib (l3 + 1) (ln h160 l0)) ((if (gI h160 l0 (ix (l3 + 1))) = 0 then mX (mE mtab d) KL_law 713 [some (.ref l0), some (.ref l1), some (.ref l2), some (.int l3)] [.int 0, .ref l2, .int x161] h160 else mX (mE mtab d) KL_law 713 [some (.ref l0), some (.ref l1), some (.ref l2), some (.int l3)] [.int 1, .ref l2, .int x161] h160)))) := by
  refine mX_ckc (m := mcl (mE mtab d 280 [.ref s1, .int s0] h) 1 703 [some (.ref l0), some (.ref l1), some (.ref l2), some (.int l3)] []) rfl ?_
  refine mk_cI ?_
  intro x161 h160
  refine mX_to 5 (k' := 708) (ls' := [some (.ref l0), some (.ref l1), some (.ref l2), some (.int l3)]) (st' := [.int (l3 + 1), .ref l0, .ref l2, .int x161]) (h' := h160) rfl ?_
  refine mX_ck (k' := 709) (ls' := [some (.ref l0), some (.ref l1), some (.ref l2), some (.int l3)]) (st' := [.int (gI h160 l0 (ix (l3 + 1))), .ref l2, .int x161]) (h' := h160) rfl ?_
  refine mX_br (t := 712) (f := 710) (ls' := [some (.ref l0), some (.ref l1), some (.ref l2), some (.int l3)]) (st' := [.ref l2, .int x161]) (h' := h160) rfl ?_ ?_
  · refine mX_to 1 (k' := 713) (ls' := [some (.ref l0), some (.ref l1), some (.ref l2), some (.int l3)]) (st' := [.int 0, .ref l2, .int x161]) (h' := h160) rfl ?_
    rfl
  · refine mX_to 2 (k' := 713) (ls' := [some (.ref l0), some (.ref l1), some (.ref l2), some (.int l3)]) (st' := [.int 1, .ref l2, .int x161]) (h' := h160) rfl ?_
    rfl
set_option maxRecDepth 100000 in
theorem D_L_law_757 (d : Nat) (h : MH) (l0 : Nat) (l1 : Nat) (l2 : Nat) (l3 : Int32) (s0 : Int32) (s1 : Int32) (s2 : Nat) : mX (mE mtab d) KL_law 757 [some (.ref l0), some (.ref l1), some (.ref l2), some (.int l3)] [.int s0, .int s1, .ref s2] h = ck (kd h s2 = 11) (cI (mE mtab d 292 [.ref s2, .int s1, .int s0] h) (fun x163 h162 => ck ((kd h162 l0 = 20 ∨ kd h162 l0 = 24) ∧ ib (l3 + 1) (ln h162 l0)) (ck ((kd h162 l0 = 20 ∨ kd h162 l0 = 24) ∧ ib (l3 + 2) (ln h162 l0)) ((if (gI h162 l0 (ix (l3 + 2))) = 0 then mX (mE mtab d) KL_law 773 [some (.ref l0), some (.ref l1), some (.ref l2), some (.int l3)] [.int 0, .int (gI h162 l0 (ix (l3 + 1))), .ref l2, .int x163] h162 else mX (mE mtab d) KL_law 773 [some (.ref l0), some (.ref l1), some (.ref l2), some (.int l3)] [.int 1, .int (gI h162 l0 (ix (l3 + 1))), .ref l2, .int x163] h162))))) := by
  refine mX_ckc (m := mcl (mE mtab d 292 [.ref s2, .int s1, .int s0] h) 1 758 [some (.ref l0), some (.ref l1), some (.ref l2), some (.int l3)] []) rfl ?_
  refine mk_cI ?_
  intro x163 h162
  refine mX_to 5 (k' := 763) (ls' := [some (.ref l0), some (.ref l1), some (.ref l2), some (.int l3)]) (st' := [.int (l3 + 1), .ref l0, .ref l2, .int x163]) (h' := h162) rfl ?_
  refine mX_ck (k' := 764) (ls' := [some (.ref l0), some (.ref l1), some (.ref l2), some (.int l3)]) (st' := [.int (gI h162 l0 (ix (l3 + 1))), .ref l2, .int x163]) (h' := h162) rfl ?_
  refine mX_to 4 (k' := 768) (ls' := [some (.ref l0), some (.ref l1), some (.ref l2), some (.int l3)]) (st' := [.int (l3 + 2), .ref l0, .int (gI h162 l0 (ix (l3 + 1))), .ref l2, .int x163]) (h' := h162) rfl ?_
  refine mX_ck (k' := 769) (ls' := [some (.ref l0), some (.ref l1), some (.ref l2), some (.int l3)]) (st' := [.int (gI h162 l0 (ix (l3 + 2))), .int (gI h162 l0 (ix (l3 + 1))), .ref l2, .int x163]) (h' := h162) rfl ?_
  refine mX_br (t := 772) (f := 770) (ls' := [some (.ref l0), some (.ref l1), some (.ref l2), some (.int l3)]) (st' := [.int (gI h162 l0 (ix (l3 + 1))), .ref l2, .int x163]) (h' := h162) rfl ?_ ?_
  · refine mX_to 1 (k' := 773) (ls' := [some (.ref l0), some (.ref l1), some (.ref l2), some (.int l3)]) (st' := [.int 0, .int (gI h162 l0 (ix (l3 + 1))), .ref l2, .int x163]) (h' := h162) rfl ?_
    rfl
  · refine mX_to 2 (k' := 773) (ls' := [some (.ref l0), some (.ref l1), some (.ref l2), some (.int l3)]) (st' := [.int 1, .int (gI h162 l0 (ix (l3 + 1))), .ref l2, .int x163]) (h' := h162) rfl ?_
    rfl
set_option maxRecDepth 100000 in
theorem D_L_law_792 (d : Nat) (h : MH) (l0 : Nat) (l1 : Nat) (l2 : Nat) (l3 : Int32) (s0 : Int32) (s1 : Int32) (s2 : Nat) : mX (mE mtab d) KL_law 792 [some (.ref l0), some (.ref l1), some (.ref l2), some (.int l3)] [.int s0, .int s1, .ref s2] h = ck (kd h s2 = 11) (cI (mE mtab d 297 [.ref s2, .int s1, .int s0] h) (fun x165 h164 => ck ((kd h164 l0 = 20 ∨ kd h164 l0 = 24) ∧ ib (l3 + 1) (ln h164 l0)) (ck ((kd h164 l0 = 20 ∨ kd h164 l0 = 24) ∧ ib (l3 + 2) (ln h164 l0)) ((if (gI h164 l0 (ix (l3 + 2))) = 0 then mX (mE mtab d) KL_law 808 [some (.ref l0), some (.ref l1), some (.ref l2), some (.int l3)] [.int 0, .int (gI h164 l0 (ix (l3 + 1))), .ref l2, .int x165] h164 else mX (mE mtab d) KL_law 808 [some (.ref l0), some (.ref l1), some (.ref l2), some (.int l3)] [.int 1, .int (gI h164 l0 (ix (l3 + 1))), .ref l2, .int x165] h164))))) := by
  refine mX_ckc (m := mcl (mE mtab d 297 [.ref s2, .int s1, .int s0] h) 1 793 [some (.ref l0), some (.ref l1), some (.ref l2), some (.int l3)] []) rfl ?_
  refine mk_cI ?_
  intro x165 h164
  refine mX_to 5 (k' := 798) (ls' := [some (.ref l0), some (.ref l1), some (.ref l2), some (.int l3)]) (st' := [.int (l3 + 1), .ref l0, .ref l2, .int x165]) (h' := h164) rfl ?_
  refine mX_ck (k' := 799) (ls' := [some (.ref l0), some (.ref l1), some (.ref l2), some (.int l3)]) (st' := [.int (gI h164 l0 (ix (l3 + 1))), .ref l2, .int x165]) (h' := h164) rfl ?_
  refine mX_to 4 (k' := 803) (ls' := [some (.ref l0), some (.ref l1), some (.ref l2), some (.int l3)]) (st' := [.int (l3 + 2), .ref l0, .int (gI h164 l0 (ix (l3 + 1))), .ref l2, .int x165]) (h' := h164) rfl ?_
  refine mX_ck (k' := 804) (ls' := [some (.ref l0), some (.ref l1), some (.ref l2), some (.int l3)]) (st' := [.int (gI h164 l0 (ix (l3 + 2))), .int (gI h164 l0 (ix (l3 + 1))), .ref l2, .int x165]) (h' := h164) rfl ?_
  refine mX_br (t := 807) (f := 805) (ls' := [some (.ref l0), some (.ref l1), some (.ref l2), some (.int l3)]) (st' := [.int (gI h164 l0 (ix (l3 + 1))), .ref l2, .int x165]) (h' := h164) rfl ?_ ?_
  · refine mX_to 1 (k' := 808) (ls' := [some (.ref l0), some (.ref l1), some (.ref l2), some (.int l3)]) (st' := [.int 0, .int (gI h164 l0 (ix (l3 + 1))), .ref l2, .int x165]) (h' := h164) rfl ?_
    rfl
  · refine mX_to 2 (k' := 808) (ls' := [some (.ref l0), some (.ref l1), some (.ref l2), some (.int l3)]) (st' := [.int 1, .int (gI h164 l0 (ix (l3 + 1))), .ref l2, .int x165]) (h' := h164) rfl ?_
    rfl
set_option maxRecDepth 100000 in
theorem D_L_law_856 (d : Nat) (h : MH) (l0 : Nat) (l1 : Nat) (l2 : Nat) (l3 : Int32) (s0 : Int32) (s1 : Nat) : mX (mE mtab d) KL_law 856 [some (.ref l0), some (.ref l1), some (.ref l2), some (.int l3)] [.int s0, .ref s1] h = ck (kd h s1 = 11) (cI (mE mtab d 306 [.ref s1, .int s0] h) (fun x167 h166 => ck ((kd h166 l0 = 20 ∨ kd h166 l0 = 24) ∧ ib (l3 + 1) (ln h166 l0)) ((if (gI h166 l0 (ix (l3 + 1))) = 0 then mX (mE mtab d) KL_law 867 [some (.ref l0), some (.ref l1), some (.ref l2), some (.int l3)] [.int 0, .ref l2, .int x167] h166 else mX (mE mtab d) KL_law 867 [some (.ref l0), some (.ref l1), some (.ref l2), some (.int l3)] [.int 1, .ref l2, .int x167] h166)))) := by
  refine mX_ckc (m := mcl (mE mtab d 306 [.ref s1, .int s0] h) 1 857 [some (.ref l0), some (.ref l1), some (.ref l2), some (.int l3)] []) rfl ?_
  refine mk_cI ?_
  intro x167 h166
  refine mX_to 5 (k' := 862) (ls' := [some (.ref l0), some (.ref l1), some (.ref l2), some (.int l3)]) (st' := [.int (l3 + 1), .ref l0, .ref l2, .int x167]) (h' := h166) rfl ?_
  refine mX_ck (k' := 863) (ls' := [some (.ref l0), some (.ref l1), some (.ref l2), some (.int l3)]) (st' := [.int (gI h166 l0 (ix (l3 + 1))), .ref l2, .int x167]) (h' := h166) rfl ?_
  refine mX_br (t := 866) (f := 864) (ls' := [some (.ref l0), some (.ref l1), some (.ref l2), some (.int l3)]) (st' := [.ref l2, .int x167]) (h' := h166) rfl ?_ ?_
  · refine mX_to 1 (k' := 867) (ls' := [some (.ref l0), some (.ref l1), some (.ref l2), some (.int l3)]) (st' := [.int 0, .ref l2, .int x167]) (h' := h166) rfl ?_
    rfl
  · refine mX_to 2 (k' := 867) (ls' := [some (.ref l0), some (.ref l1), some (.ref l2), some (.int l3)]) (st' := [.int 1, .ref l2, .int x167]) (h' := h166) rfl ?_
    rfl
set_option maxRecDepth 100000 in
theorem D_L_law_249 (d : Nat) (h : MH) (l0 : Nat) (l1 : Nat) (l2 : Nat) (l3 : Int32) (s0 : Int32) (s1 : Int32) (s2 : Nat) (s3 : Int32) : mX (mE mtab d) KL_law 249 [some (.ref l0), some (.ref l1), some (.ref l2), some (.int l3)] [.int s0, .int s1, .ref s2, .int s3] h = ck (kd h s2 = 12) (cI (mE mtab d 176 [.ref s2, .int s1, .int s0] h) (fun x169 h168 => (if s3 = x169 then mX (mE mtab d) KL_law 1008 [some (.ref l0), some (.ref l1), some (.ref l2), some (.int l3)] [] h168 else some (.int 0, h168)))) := by
  refine mX_ckc (m := mcl (mE mtab d 176 [.ref s2, .int s1, .int s0] h) 1 250 [some (.ref l0), some (.ref l1), some (.ref l2), some (.int l3)] [.int s3]) rfl ?_
  refine mk_cI ?_
  intro x169 h168
  refine mX_br (t := 1008) (f := 251) (ls' := [some (.ref l0), some (.ref l1), some (.ref l2), some (.int l3)]) (st' := []) (h' := h168) rfl ?_ ?_
  · rfl
  · refine mX_to 1 (k' := 252) (ls' := [some (.ref l0), some (.ref l1), some (.ref l2), some (.int l3)]) (st' := [.int 0]) (h' := h168) rfl ?_
    exact mX_retb (by decide) rfl
set_option maxRecDepth 100000 in
theorem D_L_law_282 (d : Nat) (h : MH) (l0 : Nat) (l1 : Nat) (l2 : Nat) (l3 : Int32) (s0 : Int32) (s1 : Int32) (s2 : Int32) (s3 : Int32) (s4 : Nat) : mX (mE mtab d) KL_law 282 [some (.ref l0), some (.ref l1), some (.ref l2), some (.int l3)] [.int s0, .int s1, .int s2, .int s3, .ref s4] h = ck (kd h s4 = 11) (cI (mE mtab d 179 [.ref s4, .int s3, .int s2, .int s1, .int s0] h) (fun x171 h170 => ck ((kd h170 l0 = 20 ∨ kd h170 l0 = 24) ∧ ib (l3 + 1) (ln h170 l0)) (ck ((kd h170 l0 = 20 ∨ kd h170 l0 = 24) ∧ ib (l3 + 2) (ln h170 l0)) ((if (gI h170 l0 (ix (l3 + 2))) = 0 then mX (mE mtab d) KL_law 298 [some (.ref l0), some (.ref l1), some (.ref l2), some (.int l3)] [.int 0, .int (gI h170 l0 (ix (l3 + 1))), .ref l2, .int x171] h170 else mX (mE mtab d) KL_law 298 [some (.ref l0), some (.ref l1), some (.ref l2), some (.int l3)] [.int 1, .int (gI h170 l0 (ix (l3 + 1))), .ref l2, .int x171] h170))))) := by
  refine mX_ckc (m := mcl (mE mtab d 179 [.ref s4, .int s3, .int s2, .int s1, .int s0] h) 1 283 [some (.ref l0), some (.ref l1), some (.ref l2), some (.int l3)] []) rfl ?_
  refine mk_cI ?_
  intro x171 h170
  refine mX_to 5 (k' := 288) (ls' := [some (.ref l0), some (.ref l1), some (.ref l2), some (.int l3)]) (st' := [.int (l3 + 1), .ref l0, .ref l2, .int x171]) (h' := h170) rfl ?_
  refine mX_ck (k' := 289) (ls' := [some (.ref l0), some (.ref l1), some (.ref l2), some (.int l3)]) (st' := [.int (gI h170 l0 (ix (l3 + 1))), .ref l2, .int x171]) (h' := h170) rfl ?_
  refine mX_to 4 (k' := 293) (ls' := [some (.ref l0), some (.ref l1), some (.ref l2), some (.int l3)]) (st' := [.int (l3 + 2), .ref l0, .int (gI h170 l0 (ix (l3 + 1))), .ref l2, .int x171]) (h' := h170) rfl ?_
  refine mX_ck (k' := 294) (ls' := [some (.ref l0), some (.ref l1), some (.ref l2), some (.int l3)]) (st' := [.int (gI h170 l0 (ix (l3 + 2))), .int (gI h170 l0 (ix (l3 + 1))), .ref l2, .int x171]) (h' := h170) rfl ?_
  refine mX_br (t := 297) (f := 295) (ls' := [some (.ref l0), some (.ref l1), some (.ref l2), some (.int l3)]) (st' := [.int (gI h170 l0 (ix (l3 + 1))), .ref l2, .int x171]) (h' := h170) rfl ?_ ?_
  · refine mX_to 1 (k' := 298) (ls' := [some (.ref l0), some (.ref l1), some (.ref l2), some (.int l3)]) (st' := [.int 0, .int (gI h170 l0 (ix (l3 + 1))), .ref l2, .int x171]) (h' := h170) rfl ?_
    rfl
  · refine mX_to 2 (k' := 298) (ls' := [some (.ref l0), some (.ref l1), some (.ref l2), some (.int l3)]) (st' := [.int 1, .int (gI h170 l0 (ix (l3 + 1))), .ref l2, .int x171]) (h' := h170) rfl ?_
    rfl
set_option maxRecDepth 100000 in
theorem D_L_law_589 (d : Nat) (h : MH) (l0 : Nat) (l1 : Nat) (l2 : Nat) (l3 : Int32) (s0 : Int32) (s1 : Nat) (s2 : Int32) : mX (mE mtab d) KL_law 589 [some (.ref l0), some (.ref l1), some (.ref l2), some (.int l3)] [.int s0, .ref s1, .int s2] h = ck ((kd h l0 = 20 ∨ kd h l0 = 24) ∧ ib (l3 + 2) (ln h l0)) (ck (kd h s1 = 12) (cI (mE mtab d 254 [.ref s1, .int s0, .int (gI h l0 (ix (l3 + 2)))] h) (fun x173 h172 => (if s2 = x173 then mX (mE mtab d) KL_law 1008 [some (.ref l0), some (.ref l1), some (.ref l2), some (.int l3)] [] h172 else some (.int 0, h172))))) := by
  refine mX_to 4 (k' := 593) (ls' := [some (.ref l0), some (.ref l1), some (.ref l2), some (.int l3)]) (st' := [.int (l3 + 2), .ref l0, .int s0, .ref s1, .int s2]) (h' := h) rfl ?_
  refine mX_ck (k' := 594) (ls' := [some (.ref l0), some (.ref l1), some (.ref l2), some (.int l3)]) (st' := [.int (gI h l0 (ix (l3 + 2))), .int s0, .ref s1, .int s2]) (h' := h) rfl ?_
  refine mX_ckc (m := mcl (mE mtab d 254 [.ref s1, .int s0, .int (gI h l0 (ix (l3 + 2)))] h) 1 595 [some (.ref l0), some (.ref l1), some (.ref l2), some (.int l3)] [.int s2]) rfl ?_
  refine mk_cI ?_
  intro x173 h172
  refine mX_br (t := 1008) (f := 596) (ls' := [some (.ref l0), some (.ref l1), some (.ref l2), some (.int l3)]) (st' := []) (h' := h172) rfl ?_ ?_
  · rfl
  · refine mX_to 1 (k' := 597) (ls' := [some (.ref l0), some (.ref l1), some (.ref l2), some (.int l3)]) (st' := [.int 0]) (h' := h172) rfl ?_
    exact mX_retb (by decide) rfl
set_option maxRecDepth 100000 in
theorem D_L_law_619 (d : Nat) (h : MH) (l0 : Nat) (l1 : Nat) (l2 : Nat) (l3 : Int32) (s0 : Int32) (s1 : Nat) (s2 : Int32) : mX (mE mtab d) KL_law 619 [some (.ref l0), some (.ref l1), some (.ref l2), some (.int l3)] [.int s0, .ref s1, .int s2] h = ck (kd h s1 = 12) (cI (mE mtab d 256 [.ref s1, .int s0] h) (fun x175 h174 => (if s2 = x175 then mX (mE mtab d) KL_law 1008 [some (.ref l0), some (.ref l1), some (.ref l2), some (.int l3)] [] h174 else some (.int 0, h174)))) := by
  refine mX_ckc (m := mcl (mE mtab d 256 [.ref s1, .int s0] h) 1 620 [some (.ref l0), some (.ref l1), some (.ref l2), some (.int l3)] [.int s2]) rfl ?_
  refine mk_cI ?_
  intro x175 h174
  refine mX_br (t := 1008) (f := 621) (ls' := [some (.ref l0), some (.ref l1), some (.ref l2), some (.int l3)]) (st' := []) (h' := h174) rfl ?_ ?_
  · rfl
  · refine mX_to 1 (k' := 622) (ls' := [some (.ref l0), some (.ref l1), some (.ref l2), some (.int l3)]) (st' := [.int 0]) (h' := h174) rfl ?_
    exact mX_retb (by decide) rfl
set_option maxRecDepth 100000 in
theorem D_L_law_644 (d : Nat) (h : MH) (l0 : Nat) (l1 : Nat) (l2 : Nat) (l3 : Int32) (s0 : Int32) (s1 : Nat) (s2 : Int32) : mX (mE mtab d) KL_law 644 [some (.ref l0), some (.ref l1), some (.ref l2), some (.int l3)] [.int s0, .ref s1, .int s2] h = ck (kd h s1 = 12) (cI (mE mtab d 271 [.ref s1, .int s0] h) (fun x177 h176 => (if s2 = x177 then mX (mE mtab d) KL_law 1008 [some (.ref l0), some (.ref l1), some (.ref l2), some (.int l3)] [] h176 else some (.int 0, h176)))) := by
  refine mX_ckc (m := mcl (mE mtab d 271 [.ref s1, .int s0] h) 1 645 [some (.ref l0), some (.ref l1), some (.ref l2), some (.int l3)] [.int s2]) rfl ?_
  refine mk_cI ?_
  intro x177 h176
  refine mX_br (t := 1008) (f := 646) (ls' := [some (.ref l0), some (.ref l1), some (.ref l2), some (.int l3)]) (st' := []) (h' := h176) rfl ?_ ?_
  · rfl
  · refine mX_to 1 (k' := 647) (ls' := [some (.ref l0), some (.ref l1), some (.ref l2), some (.int l3)]) (st' := [.int 0]) (h' := h176) rfl ?_
    exact mX_retb (by decide) rfl
set_option maxRecDepth 100000 in
theorem D_L_law_713 (d : Nat) (h : MH) (l0 : Nat) (l1 : Nat) (l2 : Nat) (l3 : Int32) (s0 : Int32) (s1 : Nat) (s2 : Int32) : mX (mE mtab d) KL_law 713 [some (.ref l0), some (.ref l1), some (.ref l2), some (.int l3)] [.int s0, .ref s1, .int s2] h = ck (kd h s1 = 12) (cI (mE mtab d 283 [.ref s1, .int s0] h) (fun x179 h178 => (if s2 = x179 then mX (mE mtab d) KL_law 1008 [some (.ref l0), some (.ref l1), some (.ref l2), some (.int l3)] [] h178 else some (.int 0, h178)))) := by
  refine mX_ckc (m := mcl (mE mtab d 283 [.ref s1, .int s0] h) 1 714 [some (.ref l0), some (.ref l1), some (.ref l2), some (.int l3)] [.int s2]) rfl ?_
  refine mk_cI ?_
  intro x179 h178
  refine mX_br (t := 1008) (f := 715) (ls' := [some (.ref l0), some (.ref l1), some (.ref l2), some (.int l3)]) (st' := []) (h' := h178) rfl ?_ ?_
  · rfl
  · refine mX_to 1 (k' := 716) (ls' := [some (.ref l0), some (.ref l1), some (.ref l2), some (.int l3)]) (st' := [.int 0]) (h' := h178) rfl ?_
    exact mX_retb (by decide) rfl
set_option maxRecDepth 100000 in
theorem D_L_law_773 (d : Nat) (h : MH) (l0 : Nat) (l1 : Nat) (l2 : Nat) (l3 : Int32) (s0 : Int32) (s1 : Int32) (s2 : Nat) (s3 : Int32) : mX (mE mtab d) KL_law 773 [some (.ref l0), some (.ref l1), some (.ref l2), some (.int l3)] [.int s0, .int s1, .ref s2, .int s3] h = ck (kd h s2 = 12) (cI (mE mtab d 295 [.ref s2, .int s1, .int s0] h) (fun x181 h180 => (if s3 = x181 then mX (mE mtab d) KL_law 1008 [some (.ref l0), some (.ref l1), some (.ref l2), some (.int l3)] [] h180 else some (.int 0, h180)))) := by
  refine mX_ckc (m := mcl (mE mtab d 295 [.ref s2, .int s1, .int s0] h) 1 774 [some (.ref l0), some (.ref l1), some (.ref l2), some (.int l3)] [.int s3]) rfl ?_
  refine mk_cI ?_
  intro x181 h180
  refine mX_br (t := 1008) (f := 775) (ls' := [some (.ref l0), some (.ref l1), some (.ref l2), some (.int l3)]) (st' := []) (h' := h180) rfl ?_ ?_
  · rfl
  · refine mX_to 1 (k' := 776) (ls' := [some (.ref l0), some (.ref l1), some (.ref l2), some (.int l3)]) (st' := [.int 0]) (h' := h180) rfl ?_
    exact mX_retb (by decide) rfl
set_option maxRecDepth 100000 in
theorem D_L_law_808 (d : Nat) (h : MH) (l0 : Nat) (l1 : Nat) (l2 : Nat) (l3 : Int32) (s0 : Int32) (s1 : Int32) (s2 : Nat) (s3 : Int32) : mX (mE mtab d) KL_law 808 [some (.ref l0), some (.ref l1), some (.ref l2), some (.int l3)] [.int s0, .int s1, .ref s2, .int s3] h = ck (kd h s2 = 12) (cI (mE mtab d 298 [.ref s2, .int s1, .int s0] h) (fun x183 h182 => (if s3 = x183 then mX (mE mtab d) KL_law 1008 [some (.ref l0), some (.ref l1), some (.ref l2), some (.int l3)] [] h182 else some (.int 0, h182)))) := by
  refine mX_ckc (m := mcl (mE mtab d 298 [.ref s2, .int s1, .int s0] h) 1 809 [some (.ref l0), some (.ref l1), some (.ref l2), some (.int l3)] [.int s3]) rfl ?_
  refine mk_cI ?_
  intro x183 h182
  refine mX_br (t := 1008) (f := 810) (ls' := [some (.ref l0), some (.ref l1), some (.ref l2), some (.int l3)]) (st' := []) (h' := h182) rfl ?_ ?_
  · rfl
  · refine mX_to 1 (k' := 811) (ls' := [some (.ref l0), some (.ref l1), some (.ref l2), some (.int l3)]) (st' := [.int 0]) (h' := h182) rfl ?_
    exact mX_retb (by decide) rfl
set_option maxRecDepth 100000 in
theorem D_L_law_867 (d : Nat) (h : MH) (l0 : Nat) (l1 : Nat) (l2 : Nat) (l3 : Int32) (s0 : Int32) (s1 : Nat) (s2 : Int32) : mX (mE mtab d) KL_law 867 [some (.ref l0), some (.ref l1), some (.ref l2), some (.int l3)] [.int s0, .ref s1, .int s2] h = ck (kd h s1 = 12) (cI (mE mtab d 308 [.ref s1, .int s0] h) (fun x185 h184 => (if s2 = x185 then mX (mE mtab d) KL_law 1008 [some (.ref l0), some (.ref l1), some (.ref l2), some (.int l3)] [] h184 else some (.int 0, h184)))) := by
  refine mX_ckc (m := mcl (mE mtab d 308 [.ref s1, .int s0] h) 1 868 [some (.ref l0), some (.ref l1), some (.ref l2), some (.int l3)] [.int s2]) rfl ?_
  refine mk_cI ?_
  intro x185 h184
  refine mX_br (t := 1008) (f := 869) (ls' := [some (.ref l0), some (.ref l1), some (.ref l2), some (.int l3)]) (st' := []) (h' := h184) rfl ?_ ?_
  · rfl
  · refine mX_to 1 (k' := 870) (ls' := [some (.ref l0), some (.ref l1), some (.ref l2), some (.int l3)]) (st' := [.int 0]) (h' := h184) rfl ?_
    exact mX_retb (by decide) rfl
set_option maxRecDepth 100000 in
theorem D_L_law_298 (d : Nat) (h : MH) (l0 : Nat) (l1 : Nat) (l2 : Nat) (l3 : Int32) (s0 : Int32) (s1 : Int32) (s2 : Nat) (s3 : Int32) : mX (mE mtab d) KL_law 298 [some (.ref l0), some (.ref l1), some (.ref l2), some (.int l3)] [.int s0, .int s1, .ref s2, .int s3] h = ck ((kd h l0 = 20 ∨ kd h l0 = 24) ∧ ib (l3 + 3) (ln h l0)) (ck ((kd h l0 = 20 ∨ kd h l0 = 24) ∧ ib (l3 + 4) (ln h l0)) ((if (gI h l0 (ix (l3 + 4))) = 0 then mX (mE mtab d) KL_law 312 [some (.ref l0), some (.ref l1), some (.ref l2), some (.int l3)] [.int 0, .int (gI h l0 (ix (l3 + 3))), .int s0, .int s1, .ref s2, .int s3] h else mX (mE mtab d) KL_law 312 [some (.ref l0), some (.ref l1), some (.ref l2), some (.int l3)] [.int 1, .int (gI h l0 (ix (l3 + 3))), .int s0, .int s1, .ref s2, .int s3] h))) := by
  refine mX_to 4 (k' := 302) (ls' := [some (.ref l0), some (.ref l1), some (.ref l2), some (.int l3)]) (st' := [.int (l3 + 3), .ref l0, .int s0, .int s1, .ref s2, .int s3]) (h' := h) rfl ?_
  refine mX_ck (k' := 303) (ls' := [some (.ref l0), some (.ref l1), some (.ref l2), some (.int l3)]) (st' := [.int (gI h l0 (ix (l3 + 3))), .int s0, .int s1, .ref s2, .int s3]) (h' := h) rfl ?_
  refine mX_to 4 (k' := 307) (ls' := [some (.ref l0), some (.ref l1), some (.ref l2), some (.int l3)]) (st' := [.int (l3 + 4), .ref l0, .int (gI h l0 (ix (l3 + 3))), .int s0, .int s1, .ref s2, .int s3]) (h' := h) rfl ?_
  refine mX_ck (k' := 308) (ls' := [some (.ref l0), some (.ref l1), some (.ref l2), some (.int l3)]) (st' := [.int (gI h l0 (ix (l3 + 4))), .int (gI h l0 (ix (l3 + 3))), .int s0, .int s1, .ref s2, .int s3]) (h' := h) rfl ?_
  refine mX_br (t := 311) (f := 309) (ls' := [some (.ref l0), some (.ref l1), some (.ref l2), some (.int l3)]) (st' := [.int (gI h l0 (ix (l3 + 3))), .int s0, .int s1, .ref s2, .int s3]) (h' := h) rfl ?_ ?_
  · refine mX_to 1 (k' := 312) (ls' := [some (.ref l0), some (.ref l1), some (.ref l2), some (.int l3)]) (st' := [.int 0, .int (gI h l0 (ix (l3 + 3))), .int s0, .int s1, .ref s2, .int s3]) (h' := h) rfl ?_
    rfl
  · refine mX_to 2 (k' := 312) (ls' := [some (.ref l0), some (.ref l1), some (.ref l2), some (.int l3)]) (st' := [.int 1, .int (gI h l0 (ix (l3 + 3))), .int s0, .int s1, .ref s2, .int s3]) (h' := h) rfl ?_
    rfl
set_option maxRecDepth 100000 in
theorem D_L_law_312 (d : Nat) (h : MH) (l0 : Nat) (l1 : Nat) (l2 : Nat) (l3 : Int32) (s0 : Int32) (s1 : Int32) (s2 : Int32) (s3 : Int32) (s4 : Nat) (s5 : Int32) : mX (mE mtab d) KL_law 312 [some (.ref l0), some (.ref l1), some (.ref l2), some (.int l3)] [.int s0, .int s1, .int s2, .int s3, .ref s4, .int s5] h = ck (kd h s4 = 12) (cI (mE mtab d 181 [.ref s4, .int s3, .int s2, .int s1, .int s0] h) (fun x187 h186 => (if s5 = x187 then mX (mE mtab d) KL_law 1008 [some (.ref l0), some (.ref l1), some (.ref l2), some (.int l3)] [] h186 else some (.int 0, h186)))) := by
  refine mX_ckc (m := mcl (mE mtab d 181 [.ref s4, .int s3, .int s2, .int s1, .int s0] h) 1 313 [some (.ref l0), some (.ref l1), some (.ref l2), some (.int l3)] [.int s5]) rfl ?_
  refine mk_cI ?_
  intro x187 h186
  refine mX_br (t := 1008) (f := 314) (ls' := [some (.ref l0), some (.ref l1), some (.ref l2), some (.int l3)]) (st' := []) (h' := h186) rfl ?_ ?_
  · rfl
  · refine mX_to 1 (k' := 315) (ls' := [some (.ref l0), some (.ref l1), some (.ref l2), some (.int l3)]) (st' := [.int 0]) (h' := h186) rfl ?_
    exact mX_retb (by decide) rfl
theorem D_L_law (d : Nat) (h : MH) : mX (mE mtab d) KL_law 0 [some (.ref 1), none, none, none] [] h = lt_ (mA h 11 7) fun h1 => ck (kd h1 (mN h) = 11) (cV (mE mtab d 8 [.ref (mN h)] h1) (fun h2 => lt_ (mN h) fun v3 => lt_ (mA h2 12 33) fun h4 => ck (kd h4 (mN h2) = 12) (cV (mE mtab d 10 [.ref (mN h2)] h4) (fun h5 => lt_ (mN h2) fun v6 => mX (mE mtab d) KL_law 10 [some (.ref 1), some (.ref v3), some (.ref v6), some (.int 0)] [] h5)))) := by
  refine mX_to 1 (k' := 1) (ls' := [some (.ref 1), none, none, none]) (st' := [.ref (mN h)]) (h' := (mA h 11 7)) rfl ?_
  refine lt_gen (X := fun h1 : MH => mX (mE mtab d) KL_law 1 [some (.ref 1), none, none, none] [.ref (mN h)] h1) fun h1 => ?_
  refine mX_to 1 (k' := 2) (ls' := [some (.ref 1), none, none, none]) (st' := [.ref (mN h), .ref (mN h)]) (h' := h1) rfl ?_
  refine mX_ckc (m := mcl (mE mtab d 8 [.ref (mN h)] h1) 0 3 [some (.ref 1), none, none, none] [.ref (mN h)]) rfl ?_
  refine mk_cV ?_
  intro h2
  refine lt_gen (X := fun v3 : Nat => mX (mE mtab d) KL_law 3 [some (.ref 1), none, none, none] [.ref v3] h2) fun v3 => ?_
  refine mX_to 1 (k' := 4) (ls' := [some (.ref 1), some (.ref v3), none, none]) (st' := []) (h' := h2) rfl ?_
  refine mX_to 1 (k' := 5) (ls' := [some (.ref 1), some (.ref v3), none, none]) (st' := [.ref (mN h2)]) (h' := (mA h2 12 33)) rfl ?_
  refine lt_gen (X := fun h4 : MH => mX (mE mtab d) KL_law 5 [some (.ref 1), some (.ref v3), none, none] [.ref (mN h2)] h4) fun h4 => ?_
  refine mX_to 1 (k' := 6) (ls' := [some (.ref 1), some (.ref v3), none, none]) (st' := [.ref (mN h2), .ref (mN h2)]) (h' := h4) rfl ?_
  refine mX_ckc (m := mcl (mE mtab d 10 [.ref (mN h2)] h4) 0 7 [some (.ref 1), some (.ref v3), none, none] [.ref (mN h2)]) rfl ?_
  refine mk_cV ?_
  intro h5
  refine lt_gen (X := fun v6 : Nat => mX (mE mtab d) KL_law 7 [some (.ref 1), some (.ref v3), none, none] [.ref v6] h5) fun v6 => ?_
  refine mX_to 3 (k' := 10) (ls' := [some (.ref 1), some (.ref v3), some (.ref v6), some (.int 0)]) (st' := []) (h' := h5) rfl ?_
  rfl
