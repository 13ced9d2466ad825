/-! EQUATIONS OF THE METHODS (written by wip/gen/dgen.py) -/
theorem D_X7_isLetter_6 (d : Nat) (h : MH) (l0 : Int32) : mX (mE mtab d) KX7_isLetter 6 [some (.int l0)] [] h = (if l0 < 65 then some (.int 0, h) else (if l0 ≤ 90 then some (.int 1, h) else some (.int 0, h))) := by
  refine mX_to 2 (k' := 8) (ls' := [some (.int l0)]) (st' := [.int 65, .int l0]) (h' := h) rfl ?_
  refine mX_br (t := 14) (f := 9) (ls' := [some (.int l0)]) (st' := []) (h' := h) rfl ?_ ?_
  · refine mX_to 1 (k' := 15) (ls' := [some (.int l0)]) (st' := [.int 0]) (h' := h) rfl ?_
    exact mX_retb (by decide) rfl
  · refine mX_to 2 (k' := 11) (ls' := [some (.int l0)]) (st' := [.int 90, .int l0]) (h' := h) rfl ?_
    refine mX_br (t := 12) (f := 14) (ls' := [some (.int l0)]) (st' := []) (h' := h) rfl ?_ ?_
    · refine mX_to 2 (k' := 15) (ls' := [some (.int l0)]) (st' := [.int 1]) (h' := h) rfl ?_
      exact mX_retb (by decide) rfl
    · refine mX_to 1 (k' := 15) (ls' := [some (.int l0)]) (st' := [.int 0]) (h' := h) rfl ?_
      exact mX_retb (by decide) rfl
theorem D_X7_isLetter (d : Nat) (h : MH) (a0 : Int32) : mE mtab (d + 1) 35 [.int a0] h = (if a0 < 97 then mX (mE mtab d) KX7_isLetter 6 [some (.int a0)] [] h else (if a0 ≤ 122 then some (.int 1, h) else mX (mE mtab d) KX7_isLetter 6 [some (.int a0)] [] h)) := by
  refine mE_eq (q := (yX7_isLetter, cX7_isLetter, 1, (some .boolean), KX7_isLetter)) (C := KX7_isLetter) (ls := [some (.int a0)]) rfl rfl rfl rfl ?_
  refine mX_to 2 (k' := 2) (ls' := [some (.int a0)]) (st' := [.int 97, .int a0]) (h' := h) rfl ?_
  refine mX_br (t := 6) (f := 3) (ls' := [some (.int a0)]) (st' := []) (h' := h) rfl ?_ ?_
  · rfl
  · refine mX_to 2 (k' := 5) (ls' := [some (.int a0)]) (st' := [.int 122, .int a0]) (h' := h) rfl ?_
    refine mX_br (t := 12) (f := 6) (ls' := [some (.int a0)]) (st' := []) (h' := h) rfl ?_ ?_
    · refine mX_to 2 (k' := 15) (ls' := [some (.int a0)]) (st' := [.int 1]) (h' := h) rfl ?_
      exact mX_retb (by decide) rfl
    · rfl
theorem D_J0_coder_7d493 (d : Nat) (h : MH) (a0 : Nat) : mE mtab (d + 1) 36 [.ref a0] h = (if (1 : Int32) = 0 then ck (mrt 3 (1 : Int32)) (some (.int 1, h)) else ck (kd h a0 = 25) (ck (mrt 3 (gI h a0 1)) (some (.int (gI h a0 1), h)))) := by
  refine mE_eq (q := (yJ0_coder_7d493, cJ0_coder_7d493, 1, (some .byte), KJ0_coder_7d493)) (C := KJ0_coder_7d493) (ls := [some (.ref a0)]) rfl rfl rfl rfl ?_
  refine mX_to 1 (k' := 1) (ls' := [some (.ref a0)]) (st' := [.int 1]) (h' := h) rfl ?_
  refine mX_br (t := 5) (f := 2) (ls' := [some (.ref a0)]) (st' := []) (h' := h) rfl ?_ ?_
  · refine mX_to 1 (k' := 6) (ls' := [some (.ref a0)]) (st' := [.int 1]) (h' := h) rfl ?_
    exact mX_retc rfl
  · refine mX_to 1 (k' := 3) (ls' := [some (.ref a0)]) (st' := [.ref a0]) (h' := h) rfl ?_
    refine mX_ck (k' := 4) (ls' := [some (.ref a0)]) (st' := [.int (gI h a0 1)]) (h' := h) rfl ?_
    refine mX_to 1 (k' := 6) (ls' := [some (.ref a0)]) (st' := [.int (gI h a0 1)]) (h' := h) rfl ?_
    exact mX_retc rfl
theorem D_J0_length_8abf5 (d : Nat) (h : MH) (a0 : Nat) : mE mtab (d + 1) 37 [.ref a0] h = ck (kd h a0 = 25) (ck (20 ≤ kd h (gR h a0 0) ∧ ¬ kd h (gR h a0 0) = 25 ∧ kd h (gR h a0 0) ≤ 26) (ck (kd h a0 = 25) (cI (mE mtab d 36 [.ref a0] h) (fun x2 h1 => some (.int ((nI (ln h (gR h a0 0))) >>> (x2 &&& 31)), h1))))) := by
  refine mE_eq (q := (yJ0_length_8abf5, cJ0_length_8abf5, 1, (some .int), KJ0_length_8abf5)) (C := KJ0_length_8abf5) (ls := [some (.ref a0)]) rfl rfl rfl rfl ?_
  refine mX_to 1 (k' := 1) (ls' := [some (.ref a0)]) (st' := [.ref a0]) (h' := h) rfl ?_
  refine mX_ck (k' := 2) (ls' := [some (.ref a0)]) (st' := [.ref (gR h a0 0)]) (h' := h) rfl ?_
  refine mX_ck (k' := 3) (ls' := [some (.ref a0)]) (st' := [.int (nI (ln h (gR h a0 0)))]) (h' := h) rfl ?_
  refine mX_to 1 (k' := 4) (ls' := [some (.ref a0)]) (st' := [.ref a0, .int (nI (ln h (gR h a0 0)))]) (h' := h) rfl ?_
  refine mX_ckc (m := mcl (mE mtab d 36 [.ref a0] h) 1 5 [some (.ref a0)] [.int (nI (ln h (gR h a0 0)))]) rfl ?_
  refine mk_cI ?_
  intro x2 h1
  refine mX_to 1 (k' := 6) (ls' := [some (.ref a0)]) (st' := [.int ((nI (ln h (gR h a0 0))) >>> (x2 &&& 31))]) (h' := h1) rfl ?_
  exact mX_reti rfl
theorem D_J0_isLatin1_aae02 (d : Nat) (h : MH) (a0 : Nat) : mE mtab (d + 1) 38 [.ref a0] h = (if (1 : Int32) = 0 then some (.int 0, h) else ck (kd h a0 = 25) ((if (gI h a0 1) = 0 then some (.int 1, h) else some (.int 0, h)))) := by
  refine mE_eq (q := (yJ0_isLatin1_aae02, cJ0_isLatin1_aae02, 1, (some .boolean), KJ0_isLatin1_aae02)) (C := KJ0_isLatin1_aae02) (ls := [some (.ref a0)]) rfl rfl rfl rfl ?_
  refine mX_to 1 (k' := 1) (ls' := [some (.ref a0)]) (st' := [.int 1]) (h' := h) rfl ?_
  refine mX_br (t := 7) (f := 2) (ls' := [some (.ref a0)]) (st' := []) (h' := h) rfl ?_ ?_
  · refine mX_to 1 (k' := 8) (ls' := [some (.ref a0)]) (st' := [.int 0]) (h' := h) rfl ?_
    exact mX_retb (by decide) rfl
  · refine mX_to 1 (k' := 3) (ls' := [some (.ref a0)]) (st' := [.ref a0]) (h' := h) rfl ?_
    refine mX_ck (k' := 4) (ls' := [some (.ref a0)]) (st' := [.int (gI h a0 1)]) (h' := h) rfl ?_
    refine mX_br (t := 5) (f := 7) (ls' := [some (.ref a0)]) (st' := []) (h' := h) rfl ?_ ?_
    · refine mX_to 2 (k' := 8) (ls' := [some (.ref a0)]) (st' := [.int 1]) (h' := h) rfl ?_
      exact mX_retb (by decide) rfl
    · refine mX_to 1 (k' := 8) (ls' := [some (.ref a0)]) (st' := [.int 0]) (h' := h) rfl ?_
      exact mX_retb (by decide) rfl
theorem D_J3_checkIndex_8e157_5 (d : Nat) (h : MH) (l0 : Int32) (l1 : Int32) (l2 : Nat) : mX (mE mtab d) KJ3_checkIndex_8e157 5 [some (.int l0), some (.int l1), some (.retAddr l2)] [] h = none := by
  exact mX_bad rfl
theorem D_J3_checkIndex_8e157 (d : Nat) (h : MH) (a0 : Int32) (a1 : Int32) (a2 : Nat) : mE mtab (d + 1) 39 [.int a0, .int a1, .retAddr a2] h = (if a0 < 0 then mX (mE mtab d) KJ3_checkIndex_8e157 5 [some (.int a0), some (.int a1), some (.retAddr a2)] [] h else (if a0 < a1 then some (.int a0, h) else mX (mE mtab d) KJ3_checkIndex_8e157 5 [some (.int a0), some (.int a1), some (.retAddr a2)] [] h)) := by
  refine mE_eq (q := (yJ3_checkIndex_8e157, cJ3_checkIndex_8e157, 3, (some .int), KJ3_checkIndex_8e157)) (C := KJ3_checkIndex_8e157) (ls := [some (.int a0), some (.int a1), some (.retAddr a2)]) rfl rfl rfl rfl ?_
  refine mX_to 1 (k' := 1) (ls' := [some (.int a0), some (.int a1), some (.retAddr a2)]) (st' := [.int a0]) (h' := h) rfl ?_
  refine mX_br (t := 5) (f := 2) (ls' := [some (.int a0), some (.int a1), some (.retAddr a2)]) (st' := []) (h' := h) rfl ?_ ?_
  · rfl
  · refine mX_to 2 (k' := 4) (ls' := [some (.int a0), some (.int a1), some (.retAddr a2)]) (st' := [.int a1, .int a0]) (h' := h) rfl ?_
    refine mX_br (t := 10) (f := 5) (ls' := [some (.int a0), some (.int a1), some (.retAddr a2)]) (st' := []) (h' := h) rfl ?_ ?_
    · refine mX_to 1 (k' := 11) (ls' := [some (.int a0), some (.int a1), some (.retAddr a2)]) (st' := [.int a0]) (h' := h) rfl ?_
      exact mX_reti rfl
    · rfl
theorem D_J0_checkIndex_df160 (d : Nat) (h : MH) (a0 : Int32) (a1 : Int32) : mE mtab (d + 1) 40 [.int a0, .int a1] h = cI (mE mtab d 39 [.int a0, .int a1, .retAddr 0] h) (fun x2 h1 => some (.int 0, h1)) := by
  refine mE_eq (q := (yJ0_checkIndex_df160, cJ0_checkIndex_df160, 2, none, KJ0_checkIndex_df160)) (C := KJ0_checkIndex_df160) (ls := [some (.int a0), some (.int a1)]) rfl rfl rfl rfl ?_
  refine mX_to 3 (k' := 3) (ls' := [some (.int a0), some (.int a1)]) (st' := [.retAddr 0, .int a1, .int a0]) (h' := h) rfl ?_
  refine mX_cI (o := mE mtab d 39 [.int a0, .int a1, .retAddr 0] h) (k' := 4) (ls' := [some (.int a0), some (.int a1)]) (st' := []) rfl ?_
  intro x2 h1
  refine mX_to 1 (k' := 5) (ls' := [some (.int a0), some (.int a1)]) (st' := []) (h' := h1) rfl ?_
  exact mX_ret rfl
theorem D_J1_charAt_3b067 (d : Nat) (h : MH) (a0 : Nat) (a1 : Int32) : mE mtab (d + 1) 41 [.ref a0, .int a1] h = ck (20 ≤ kd h a0 ∧ ¬ kd h a0 = 25 ∧ kd h a0 ≤ 26) (cV (mE mtab d 40 [.int a1, .int (nI (ln h a0))] h) (fun h1 => ck ((kd h1 a0 = 22 ∨ kd h1 a0 = 26) ∧ ib a1 (ln h1 a0)) (ck (mrt 2 (((((gI h1 a0 (ix a1)) &&& 255) : Int32).toUInt32 % 65536).toInt32)) (some (.int (((((gI h1 a0 (ix a1)) &&& 255) : Int32).toUInt32 % 65536).toInt32), h1))))) := by
  refine mE_eq (q := (yJ1_charAt_3b067, cJ1_charAt_3b067, 2, (some .char), KJ1_charAt_3b067)) (C := KJ1_charAt_3b067) (ls := [some (.ref a0), some (.int a1)]) rfl rfl rfl rfl ?_
  refine mX_to 2 (k' := 2) (ls' := [some (.ref a0), some (.int a1)]) (st' := [.ref a0, .int a1]) (h' := h) rfl ?_
  refine mX_ck (k' := 3) (ls' := [some (.ref a0), some (.int a1)]) (st' := [.int (nI (ln h a0)), .int a1]) (h' := h) rfl ?_
  refine mX_cV (o := mE mtab d 40 [.int a1, .int (nI (ln h a0))] h) (k' := 4) (ls' := [some (.ref a0), some (.int a1)]) (st' := []) rfl ?_
  intro h1
  refine mX_to 2 (k' := 6) (ls' := [some (.ref a0), some (.int a1)]) (st' := [.int a1, .ref a0]) (h' := h1) rfl ?_
  refine mX_ck (k' := 7) (ls' := [some (.ref a0), some (.int a1)]) (st' := [.int (gI h1 a0 (ix a1))]) (h' := h1) rfl ?_
  refine mX_to 3 (k' := 10) (ls' := [some (.ref a0), some (.int a1)]) (st' := [.int (((((gI h1 a0 (ix a1)) &&& 255) : Int32).toUInt32 % 65536).toInt32)]) (h' := h1) rfl ?_
  exact mX_retc rfl
theorem D_J2_length_9d52b (d : Nat) (h : MH) (a0 : Nat) : mE mtab (d + 1) 42 [.ref a0] h = ck (20 ≤ kd h a0 ∧ ¬ kd h a0 = 25 ∧ kd h a0 ≤ 26) (some (.int ((nI (ln h a0)) >>> (1 &&& 31)), h)) := by
  refine mE_eq (q := (yJ2_length_9d52b, cJ2_length_9d52b, 1, (some .int), KJ2_length_9d52b)) (C := KJ2_length_9d52b) (ls := [some (.ref a0)]) rfl rfl rfl rfl ?_
  refine mX_to 1 (k' := 1) (ls' := [some (.ref a0)]) (st' := [.ref a0]) (h' := h) rfl ?_
  refine mX_ck (k' := 2) (ls' := [some (.ref a0)]) (st' := [.int (nI (ln h a0))]) (h' := h) rfl ?_
  refine mX_to 2 (k' := 4) (ls' := [some (.ref a0)]) (st' := [.int ((nI (ln h a0)) >>> (1 &&& 31))]) (h' := h) rfl ?_
  exact mX_reti rfl
theorem D_J2_checkIndex_2214a (d : Nat) (h : MH) (a0 : Int32) (a1 : Nat) : mE mtab (d + 1) 43 [.int a0, .ref a1] h = cI (mE mtab d 42 [.ref a1] h) (fun x2 h1 => cV (mE mtab d 40 [.int a0, .int x2] h1) (fun h3 => some (.int 0, h3))) := by
  refine mE_eq (q := (yJ2_checkIndex_2214a, cJ2_checkIndex_2214a, 2, none, KJ2_checkIndex_2214a)) (C := KJ2_checkIndex_2214a) (ls := [some (.int a0), some (.ref a1)]) rfl rfl rfl rfl ?_
  refine mX_to 2 (k' := 2) (ls' := [some (.int a0), some (.ref a1)]) (st' := [.ref a1, .int a0]) (h' := h) rfl ?_
  refine mX_cI (o := mE mtab d 42 [.ref a1] h) (k' := 3) (ls' := [some (.int a0), some (.ref a1)]) (st' := [.int a0]) rfl ?_
  intro x2 h1
  refine mX_cV (o := mE mtab d 40 [.int a0, .int x2] h1) (k' := 4) (ls' := [some (.int a0), some (.ref a1)]) (st' := []) rfl ?_
  intro h3
  exact mX_ret rfl
theorem D_J2_getChar_3b067 (d : Nat) (h : MH) (a0 : Nat) (a1 : Int32) : mE mtab (d + 1) 44 [.ref a0, .int a1] h = none := by
  refine mE_eq (q := (yJ2_getChar_3b067, cJ2_getChar_3b067, 2, (some .char), KJ2_getChar_3b067)) (C := KJ2_getChar_3b067) (ls := [some (.ref a0), some (.int a1)]) rfl rfl rfl rfl ?_
  exact mX_bad rfl
theorem D_J2_charAt_3b067 (d : Nat) (h : MH) (a0 : Nat) (a1 : Int32) : mE mtab (d + 1) 45 [.ref a0, .int a1] h = cV (mE mtab d 43 [.int a1, .ref a0] h) (fun h1 => cI (mE mtab d 44 [.ref a0, .int a1] h1) (fun x3 h2 => ck (mrt 2 x3) (some (.int x3, h2)))) := by
  refine mE_eq (q := (yJ2_charAt_3b067, cJ2_charAt_3b067, 2, (some .char), KJ2_charAt_3b067)) (C := KJ2_charAt_3b067) (ls := [some (.ref a0), some (.int a1)]) rfl rfl rfl rfl ?_
  refine mX_to 2 (k' := 2) (ls' := [some (.ref a0), some (.int a1)]) (st' := [.ref a0, .int a1]) (h' := h) rfl ?_
  refine mX_cV (o := mE mtab d 43 [.int a1, .ref a0] h) (k' := 3) (ls' := [some (.ref a0), some (.int a1)]) (st' := []) rfl ?_
  intro h1
  refine mX_to 2 (k' := 5) (ls' := [some (.ref a0), some (.int a1)]) (st' := [.int a1, .ref a0]) (h' := h1) rfl ?_
  refine mX_cI (o := mE mtab d 44 [.ref a0, .int a1] h1) (k' := 6) (ls' := [some (.ref a0), some (.int a1)]) (st' := []) rfl ?_
  intro x3 h2
  exact mX_retc rfl
theorem D_J0_charAt_5068e (d : Nat) (h : MH) (a0 : Nat) (a1 : Int32) : mE mtab (d + 1) 46 [.ref a0, .int a1] h = ck (kd h a0 = 25) (cI (mE mtab d 38 [.ref a0] h) (fun x2 h1 => (if x2 = 0 then ck (kd h1 a0 = 25) (cI (mE mtab d 45 [.ref (gR h1 a0 0), .int a1] h1) (fun x4 h3 => ck (mrt 2 x4) (some (.int x4, h3)))) else ck (kd h1 a0 = 25) (cI (mE mtab d 41 [.ref (gR h1 a0 0), .int a1] h1) (fun x6 h5 => ck (mrt 2 x6) (some (.int x6, h5))))))) := by
  refine mE_eq (q := (yJ0_charAt_5068e, cJ0_charAt_5068e, 2, (some .char), KJ0_charAt_5068e)) (C := KJ0_charAt_5068e) (ls := [some (.ref a0), some (.int a1)]) rfl rfl rfl rfl ?_
  refine mX_to 1 (k' := 1) (ls' := [some (.ref a0), some (.int a1)]) (st' := [.ref a0]) (h' := h) rfl ?_
  refine mX_ckc (m := mcl (mE mtab d 38 [.ref a0] h) 1 2 [some (.ref a0), some (.int a1)] []) rfl ?_
  refine mk_cI ?_
  intro x2 h1
  refine mX_br (t := 8) (f := 3) (ls' := [some (.ref a0), some (.int a1)]) (st' := []) (h' := h1) rfl ?_ ?_
  · refine mX_to 1 (k' := 9) (ls' := [some (.ref a0), some (.int a1)]) (st' := [.ref a0]) (h' := h1) rfl ?_
    refine mX_ck (k' := 10) (ls' := [some (.ref a0), some (.int a1)]) (st' := [.ref (gR h1 a0 0)]) (h' := h1) rfl ?_
    refine mX_to 1 (k' := 11) (ls' := [some (.ref a0), some (.int a1)]) (st' := [.int a1, .ref (gR h1 a0 0)]) (h' := h1) rfl ?_
    refine mX_cI (o := mE mtab d 45 [.ref (gR h1 a0 0), .int a1] h1) (k' := 12) (ls' := [some (.ref a0), some (.int a1)]) (st' := []) rfl ?_
    intro x4 h3
    exact mX_retc rfl
  · refine mX_to 1 (k' := 4) (ls' := [some (.ref a0), some (.int a1)]) (st' := [.ref a0]) (h' := h1) rfl ?_
    refine mX_ck (k' := 5) (ls' := [some (.ref a0), some (.int a1)]) (st' := [.ref (gR h1 a0 0)]) (h' := h1) rfl ?_
    refine mX_to 1 (k' := 6) (ls' := [some (.ref a0), some (.int a1)]) (st' := [.int a1, .ref (gR h1 a0 0)]) (h' := h1) rfl ?_
    refine mX_cI (o := mE mtab d 41 [.ref (gR h1 a0 0), .int a1] h1) (k' := 7) (ls' := [some (.ref a0), some (.int a1)]) (st' := []) rfl ?_
    intro x6 h5
    exact mX_retc rfl
theorem D_X7_wordAt_8 (d : Nat) (h : MH) (l0 : Nat) (l1 : Int32) (l2 : Int32) (l3 : Int32) (l4 : Int32) (l5 : Int32) (l6 : Int32) (o7 : Option Value) : mX (mE mtab d) KX7_wordAt 8 [some (.ref l0), some (.int l1), some (.int l2), some (.int l3), some (.int l4), some (.int l5), some (.int l6), o7] [] h = ck (kd h 4 = 25) (cI (mE mtab d 37 [.ref 4] h) (fun x2 h1 => (if l6 < x2 then ck (kd h1 4 = 25) (cI (mE mtab d 46 [.ref 4, .int l6] h1) (fun x4 h3 => (if x4 = 32 then (if l5 = 0 then mX (mE mtab d) KX7_wordAt 26 [some (.ref l0), some (.int l1), some (.int l2), some (.int l3), some (.int l4), some (.int l5), some (.int l6), some (.int x4)] [] h3 else (if l4 = l2 then some (.int l3, h3) else mX (mE mtab d) KX7_wordAt 26 [some (.ref l0), some (.int l1), some (.int l2), some (.int l3), some (.int l4), some (.int l5), some (.int l6), some (.int x4)] [] h3)) else (if l5 = 0 then mX (mE mtab d) KX7_wordAt 45 [some (.ref l0), some (.int l1), some (.int l2), some (.int l3), some (.int l4), some (.int l5), some (.int l6), some (.int x4)] [] h3 else (if l4 < l2 then ck (kd h3 l0 = 8) (ck ((kd h3 (gR h3 l0 0) = 20 ∨ kd h3 (gR h3 l0 0) = 24) ∧ ib l4 (ln h3 (gR h3 l0 0))) ((if (gI h3 (gR h3 l0 0) (ix l4)) = x4 then mX (mE mtab d) KX7_wordAt 47 [some (.ref l0), some (.int l1), some (.int l2), some (.int l3), some (.int (l4 + 1)), some (.int l5), some (.int l6), some (.int x4)] [] h3 else mX (mE mtab d) KX7_wordAt 45 [some (.ref l0), some (.int l1), some (.int l2), some (.int l3), some (.int l4), some (.int l5), some (.int l6), some (.int x4)] [] h3))) else mX (mE mtab d) KX7_wordAt 45 [some (.ref l0), some (.int l1), some (.int l2), some (.int l3), some (.int l4), some (.int l5), some (.int l6), some (.int x4)] [] h3))))) else some (.int 260, h1)))) := by
  refine mX_to 2 (k' := 10) (ls' := [some (.ref l0), some (.int l1), some (.int l2), some (.int l3), some (.int l4), some (.int l5), some (.int l6), o7]) (st' := [.ref 4, .int l6]) (h' := h) rfl ?_
  refine mX_ckc (m := mcl (mE mtab d 37 [.ref 4] h) 1 11 [some (.ref l0), some (.int l1), some (.int l2), some (.int l3), some (.int l4), some (.int l5), some (.int l6), o7] [.int l6]) rfl ?_
  refine mk_cI ?_
  intro x2 h1
  refine mX_br (t := 12) (f := 49) (ls' := [some (.ref l0), some (.int l1), some (.int l2), some (.int l3), some (.int l4), some (.int l5), some (.int l6), o7]) (st' := []) (h' := h1) rfl ?_ ?_
  · refine mX_to 2 (k' := 14) (ls' := [some (.ref l0), some (.int l1), some (.int l2), some (.int l3), some (.int l4), some (.int l5), some (.int l6), o7]) (st' := [.int l6, .ref 4]) (h' := h1) rfl ?_
    refine mX_ckc (m := mcl (mE mtab d 46 [.ref 4, .int l6] h1) 1 15 [some (.ref l0), some (.int l1), some (.int l2), some (.int l3), some (.int l4), some (.int l5), some (.int l6), o7] []) rfl ?_
    refine mk_cI ?_
    intro x4 h3
    refine mX_to 3 (k' := 18) (ls' := [some (.ref l0), some (.int l1), some (.int l2), some (.int l3), some (.int l4), some (.int l5), some (.int l6), some (.int x4)]) (st' := [.int 32, .int x4]) (h' := h3) rfl ?_
    refine mX_br (t := 19) (f := 32) (ls' := [some (.ref l0), some (.int l1), some (.int l2), some (.int l3), some (.int l4), some (.int l5), some (.int l6), some (.int x4)]) (st' := []) (h' := h3) rfl ?_ ?_
    · refine mX_to 1 (k' := 20) (ls' := [some (.ref l0), some (.int l1), some (.int l2), some (.int l3), some (.int l4), some (.int l5), some (.int l6), some (.int x4)]) (st' := [.int l5]) (h' := h3) rfl ?_
      refine mX_br (t := 26) (f := 21) (ls' := [some (.ref l0), some (.int l1), some (.int l2), some (.int l3), some (.int l4), some (.int l5), some (.int l6), some (.int x4)]) (st' := []) (h' := h3) rfl ?_ ?_
      · rfl
      · refine mX_to 2 (k' := 23) (ls' := [some (.ref l0), some (.int l1), some (.int l2), some (.int l3), some (.int l4), some (.int l5), some (.int l6), some (.int x4)]) (st' := [.int l2, .int l4]) (h' := h3) rfl ?_
        refine mX_br (t := 24) (f := 26) (ls' := [some (.ref l0), some (.int l1), some (.int l2), some (.int l3), some (.int l4), some (.int l5), some (.int l6), some (.int x4)]) (st' := []) (h' := h3) rfl ?_ ?_
        · refine mX_to 1 (k' := 25) (ls' := [some (.ref l0), some (.int l1), some (.int l2), some (.int l3), some (.int l4), some (.int l5), some (.int l6), some (.int x4)]) (st' := [.int l3]) (h' := h3) rfl ?_
          exact mX_reti rfl
        · rfl
    · refine mX_to 1 (k' := 33) (ls' := [some (.ref l0), some (.int l1), some (.int l2), some (.int l3), some (.int l4), some (.int l5), some (.int l6), some (.int x4)]) (st' := [.int l5]) (h' := h3) rfl ?_
      refine mX_br (t := 45) (f := 34) (ls' := [some (.ref l0), some (.int l1), some (.int l2), some (.int l3), some (.int l4), some (.int l5), some (.int l6), some (.int x4)]) (st' := []) (h' := h3) rfl ?_ ?_
      · rfl
      · refine mX_to 2 (k' := 36) (ls' := [some (.ref l0), some (.int l1), some (.int l2), some (.int l3), some (.int l4), some (.int l5), some (.int l6), some (.int x4)]) (st' := [.int l2, .int l4]) (h' := h3) rfl ?_
        refine mX_br (t := 37) (f := 45) (ls' := [some (.ref l0), some (.int l1), some (.int l2), some (.int l3), some (.int l4), some (.int l5), some (.int l6), some (.int x4)]) (st' := []) (h' := h3) rfl ?_ ?_
        · refine mX_to 1 (k' := 38) (ls' := [some (.ref l0), some (.int l1), some (.int l2), some (.int l3), some (.int l4), some (.int l5), some (.int l6), some (.int x4)]) (st' := [.ref l0]) (h' := h3) rfl ?_
          refine mX_ck (k' := 39) (ls' := [some (.ref l0), some (.int l1), some (.int l2), some (.int l3), some (.int l4), some (.int l5), some (.int l6), some (.int x4)]) (st' := [.ref (gR h3 l0 0)]) (h' := h3) rfl ?_
          refine mX_to 1 (k' := 40) (ls' := [some (.ref l0), some (.int l1), some (.int l2), some (.int l3), some (.int l4), some (.int l5), some (.int l6), some (.int x4)]) (st' := [.int l4, .ref (gR h3 l0 0)]) (h' := h3) rfl ?_
          refine mX_ck (k' := 41) (ls' := [some (.ref l0), some (.int l1), some (.int l2), some (.int l3), some (.int l4), some (.int l5), some (.int l6), some (.int x4)]) (st' := [.int (gI h3 (gR h3 l0 0) (ix l4))]) (h' := h3) rfl ?_
          refine mX_to 1 (k' := 42) (ls' := [some (.ref l0), some (.int l1), some (.int l2), some (.int l3), some (.int l4), some (.int l5), some (.int l6), some (.int x4)]) (st' := [.int x4, .int (gI h3 (gR h3 l0 0) (ix l4))]) (h' := h3) rfl ?_
          refine mX_br (t := 43) (f := 45) (ls' := [some (.ref l0), some (.int l1), some (.int l2), some (.int l3), some (.int l4), some (.int l5), some (.int l6), some (.int x4)]) (st' := []) (h' := h3) rfl ?_ ?_
          · refine mX_to 2 (k' := 47) (ls' := [some (.ref l0), some (.int l1), some (.int l2), some (.int l3), some (.int (l4 + 1)), some (.int l5), some (.int l6), some (.int x4)]) (st' := []) (h' := h3) rfl ?_
            rfl
          · rfl
        · rfl
  · refine mX_to 1 (k' := 50) (ls' := [some (.ref l0), some (.int l1), some (.int l2), some (.int l3), some (.int l4), some (.int l5), some (.int l6), o7]) (st' := [.int 260]) (h' := h1) rfl ?_
    exact mX_reti rfl
theorem D_X7_wordAt_26 (d : Nat) (h : MH) (l0 : Nat) (l1 : Int32) (l2 : Int32) (l3 : Int32) (l4 : Int32) (l5 : Int32) (l6 : Int32) (l7 : Int32) : mX (mE mtab d) KX7_wordAt 26 [some (.ref l0), some (.int l1), some (.int l2), some (.int l3), some (.int l4), some (.int l5), some (.int l6), some (.int l7)] [] h = mX (mE mtab d) KX7_wordAt 47 [some (.ref l0), some (.int l1), some (.int l2), some (.int (l3 + 1)), some (.int l1), some (.int 1), some (.int l6), some (.int l7)] [] h := by
  refine mX_to 6 (k' := 47) (ls' := [some (.ref l0), some (.int l1), some (.int l2), some (.int (l3 + 1)), some (.int l1), some (.int 1), some (.int l6), some (.int l7)]) (st' := []) (h' := h) rfl ?_
  rfl
theorem D_X7_wordAt_45 (d : Nat) (h : MH) (l0 : Nat) (l1 : Int32) (l2 : Int32) (l3 : Int32) (l4 : Int32) (l5 : Int32) (l6 : Int32) (l7 : Int32) : mX (mE mtab d) KX7_wordAt 45 [some (.ref l0), some (.int l1), some (.int l2), some (.int l3), some (.int l4), some (.int l5), some (.int l6), some (.int l7)] [] h = mX (mE mtab d) KX7_wordAt 47 [some (.ref l0), some (.int l1), some (.int l2), some (.int l3), some (.int l4), some (.int 0), some (.int l6), some (.int l7)] [] h := by
  refine mX_to 2 (k' := 47) (ls' := [some (.ref l0), some (.int l1), some (.int l2), some (.int l3), some (.int l4), some (.int 0), some (.int l6), some (.int l7)]) (st' := []) (h' := h) rfl ?_
  rfl
theorem D_X7_wordAt_47 (d : Nat) (h : MH) (l0 : Nat) (l1 : Int32) (l2 : Int32) (l3 : Int32) (l4 : Int32) (l5 : Int32) (l6 : Int32) (l7 : Int32) : mX (mE mtab d) KX7_wordAt 47 [some (.ref l0), some (.int l1), some (.int l2), some (.int l3), some (.int l4), some (.int l5), some (.int l6), some (.int l7)] [] h = mX (mE mtab d) KX7_wordAt 8 [some (.ref l0), some (.int l1), some (.int l2), some (.int l3), some (.int l4), some (.int l5), some (.int (l6 + 1)), some (.int l7)] [] h := by
  refine mX_to 2 (k' := 8) (ls' := [some (.ref l0), some (.int l1), some (.int l2), some (.int l3), some (.int l4), some (.int l5), some (.int (l6 + 1)), some (.int l7)]) (st' := []) (h' := h) rfl ?_
  rfl
theorem D_X7_wordAt (d : Nat) (h : MH) (a0 : Nat) (a1 : Int32) (a2 : Int32) : mE mtab (d + 1) 47 [.ref a0, .int a1, .int a2] h = mX (mE mtab d) KX7_wordAt 8 [some (.ref a0), some (.int a1), some (.int a2), some (.int 300), some (.int a1), some (.int 1), some (.int 0), none] [] h := by
  refine mE_eq (q := (yX7_wordAt, cX7_wordAt, 8, (some .int), KX7_wordAt)) (C := KX7_wordAt) (ls := [some (.ref a0), some (.int a1), some (.int a2), none, none, none, none, none]) rfl rfl rfl rfl ?_
  refine mX_to 8 (k' := 8) (ls' := [some (.ref a0), some (.int a1), some (.int a2), some (.int 300), some (.int a1), some (.int 1), some (.int 0), none]) (st' := []) (h' := h) rfl ?_
  rfl
theorem D_X7_cutWord_4 (d : Nat) (h : MH) (l0 : Nat) (l1 : Int32) (l2 : Int32) (l3 : Int32) : mX (mE mtab d) KX7_cutWord 4 [some (.ref l0), some (.int l1), some (.int l2), some (.int l3)] [] h = ck (kd h l0 = 8) ((if l3 < (gI h l0 1) then ck (kd h l0 = 8) (ck ((kd h (gR h l0 0) = 20 ∨ kd h (gR h l0 0) = 24) ∧ ib l3 (ln h (gR h l0 0))) (cI (mE mtab d 35 [.int (gI h (gR h l0 0) (ix l3))] h) (fun x2 h1 => (if x2 = 0 then mX (mE mtab d) KX7_cutWord 20 [some (.ref l0), some (.int l1), some (.int l2), some (.int l3)] [] h1 else lt_ (l3 + 1) fun v3 => mX (mE mtab d) KX7_cutWord 4 [some (.ref l0), some (.int l1), some (.int v3), some (.int (l3 + 1))] [] h1)))) else mX (mE mtab d) KX7_cutWord 20 [some (.ref l0), some (.int l1), some (.int l2), some (.int l3)] [] h)) := by
  refine mX_to 2 (k' := 6) (ls' := [some (.ref l0), some (.int l1), some (.int l2), some (.int l3)]) (st' := [.ref l0, .int l3]) (h' := h) rfl ?_
  refine mX_ck (k' := 7) (ls' := [some (.ref l0), some (.int l1), some (.int l2), some (.int l3)]) (st' := [.int (gI h l0 1), .int l3]) (h' := h) rfl ?_
  refine mX_br (t := 8) (f := 20) (ls' := [some (.ref l0), some (.int l1), some (.int l2), some (.int l3)]) (st' := []) (h' := h) rfl ?_ ?_
  · refine mX_to 1 (k' := 9) (ls' := [some (.ref l0), some (.int l1), some (.int l2), some (.int l3)]) (st' := [.ref l0]) (h' := h) rfl ?_
    refine mX_ck (k' := 10) (ls' := [some (.ref l0), some (.int l1), some (.int l2), some (.int l3)]) (st' := [.ref (gR h l0 0)]) (h' := h) rfl ?_
    refine mX_to 1 (k' := 11) (ls' := [some (.ref l0), some (.int l1), some (.int l2), some (.int l3)]) (st' := [.int l3, .ref (gR h l0 0)]) (h' := h) rfl ?_
    refine mX_ck (k' := 12) (ls' := [some (.ref l0), some (.int l1), some (.int l2), some (.int l3)]) (st' := [.int (gI h (gR h l0 0) (ix l3))]) (h' := h) rfl ?_
    refine mX_cI (o := mE mtab d 35 [.int (gI h (gR h l0 0) (ix l3))] h) (k' := 13) (ls' := [some (.ref l0), some (.int l1), some (.int l2), some (.int l3)]) (st' := []) rfl ?_
    intro x2 h1
    refine mX_br (t := 20) (f := 14) (ls' := [some (.ref l0), some (.int l1), some (.int l2), some (.int l3)]) (st' := []) (h' := h1) rfl ?_ ?_
    · rfl
    · refine mX_to 3 (k' := 17) (ls' := [some (.ref l0), some (.int l1), some (.int l2), some (.int l3)]) (st' := [.int (l3 + 1)]) (h' := h1) rfl ?_
      refine lt_gen (X := fun v3 : Int32 => mX (mE mtab d) KX7_cutWord 17 [some (.ref l0), some (.int l1), some (.int l2), some (.int l3)] [.int v3] h1) fun v3 => ?_
      refine mX_to 3 (k' := 4) (ls' := [some (.ref l0), some (.int l1), some (.int v3), some (.int (l3 + 1))]) (st' := []) (h' := h1) rfl ?_
      rfl
  · rfl
theorem D_X7_cutWord_20 (d : Nat) (h : MH) (l0 : Nat) (l1 : Int32) (l2 : Int32) (l3 : Int32) : mX (mE mtab d) KX7_cutWord 20 [some (.ref l0), some (.int l1), some (.int l2), some (.int l3)] [] h = ck (kd h l0 = 8) (cI (mE mtab d 47 [.ref l0, .int l1, .int l2] h) (fun x6 h5 => ck (kd h5 l0 = 8) (cV (mE mtab d 33 [.ref l0, .int x6, .int l1, .int 0] h5) (fun h7 => some (.int l2, h7))))) := by
  refine mX_to 4 (k' := 24) (ls' := [some (.ref l0), some (.int l1), some (.int l2), some (.int l3)]) (st' := [.int l2, .int l1, .ref l0, .ref l0]) (h' := h) rfl ?_
  refine mX_ckc (m := mcl (mE mtab d 47 [.ref l0, .int l1, .int l2] h) 1 25 [some (.ref l0), some (.int l1), some (.int l2), some (.int l3)] [.ref l0]) rfl ?_
  refine mk_cI ?_
  intro x6 h5
  refine mX_to 2 (k' := 27) (ls' := [some (.ref l0), some (.int l1), some (.int l2), some (.int l3)]) (st' := [.int 0, .int l1, .int x6, .ref l0]) (h' := h5) rfl ?_
  refine mX_ckc (m := mcl (mE mtab d 33 [.ref l0, .int x6, .int l1, .int 0] h5) 0 28 [some (.ref l0), some (.int l1), some (.int l2), some (.int l3)] []) rfl ?_
  refine mk_cV ?_
  intro h7
  refine mX_to 1 (k' := 29) (ls' := [some (.ref l0), some (.int l1), some (.int l2), some (.int l3)]) (st' := [.int l2]) (h' := h7) rfl ?_
  exact mX_reti rfl
theorem D_X7_cutWord (d : Nat) (h : MH) (a0 : Nat) (a1 : Int32) : mE mtab (d + 1) 48 [.ref a0, .int a1] h = mX (mE mtab d) KX7_cutWord 4 [some (.ref a0), some (.int a1), some (.int a1), some (.int a1)] [] h := by
  refine mE_eq (q := (yX7_cutWord, cX7_cutWord, 4, (some .int), KX7_cutWord)) (C := KX7_cutWord) (ls := [some (.ref a0), some (.int a1), none, none]) rfl rfl rfl rfl ?_
  refine mX_to 4 (k' := 4) (ls' := [some (.ref a0), some (.int a1), some (.int a1), some (.int a1)]) (st' := []) (h' := h) rfl ?_
  rfl
theorem D_J1_canEncode_9a6ad (d : Nat) (h : MH) (a0 : Int32) : mE mtab (d + 1) 49 [.int a0] h = (if a0 < 0 then some (.int 0, h) else (if a0 ≤ 255 then some (.int 1, h) else some (.int 0, h))) := by
  refine mE_eq (q := (yJ1_canEncode_9a6ad, cJ1_canEncode_9a6ad, 1, (some .boolean), KJ1_canEncode_9a6ad)) (C := KJ1_canEncode_9a6ad) (ls := [some (.int a0)]) rfl rfl rfl rfl ?_
  refine mX_to 1 (k' := 1) (ls' := [some (.int a0)]) (st' := [.int a0]) (h' := h) rfl ?_
  refine mX_br (t := 7) (f := 2) (ls' := [some (.int a0)]) (st' := []) (h' := h) rfl ?_ ?_
  · refine mX_to 1 (k' := 8) (ls' := [some (.int a0)]) (st' := [.int 0]) (h' := h) rfl ?_
    exact mX_retb (by decide) rfl
  · refine mX_to 2 (k' := 4) (ls' := [some (.int a0)]) (st' := [.int 255, .int a0]) (h' := h) rfl ?_
    refine mX_br (t := 5) (f := 7) (ls' := [some (.int a0)]) (st' := []) (h' := h) rfl ?_ ?_
    · refine mX_to 2 (k' := 8) (ls' := [some (.int a0)]) (st' := [.int 1]) (h' := h) rfl ?_
      exact mX_retb (by decide) rfl
    · refine mX_to 1 (k' := 8) (ls' := [some (.int a0)]) (st' := [.int 0]) (h' := h) rfl ?_
      exact mX_retb (by decide) rfl
theorem D_J1_indexOfChar_4cfef_5 (d : Nat) (h : MH) (l0 : Nat) (l1 : Int32) (l2 : Int32) (l3 : Int32) (l4 : Int32) (l5 : Int32) : mX (mE mtab d) KJ1_indexOfChar_4cfef 5 [some (.ref l0), some (.int l1), some (.int l2), some (.int l3), some (.int l4), some (.int l5)] [] h = (if l5 < l3 then ck ((kd h l0 = 22 ∨ kd h l0 = 26) ∧ ib l5 (ln h l0)) ((if (gI h l0 (ix l5)) = l4 then some (.int l5, h) else mX (mE mtab d) KJ1_indexOfChar_4cfef 5 [some (.ref l0), some (.int l1), some (.int l2), some (.int l3), some (.int l4), some (.int (l5 + 1))] [] h)) else some (.int (-1), h)) := by
  refine mX_to 2 (k' := 7) (ls' := [some (.ref l0), some (.int l1), some (.int l2), some (.int l3), some (.int l4), some (.int l5)]) (st' := [.int l3, .int l5]) (h' := h) rfl ?_
  refine mX_br (t := 8) (f := 17) (ls' := [some (.ref l0), some (.int l1), some (.int l2), some (.int l3), some (.int l4), some (.int l5)]) (st' := []) (h' := h) rfl ?_ ?_
  · refine mX_to 2 (k' := 10) (ls' := [some (.ref l0), some (.int l1), some (.int l2), some (.int l3), some (.int l4), some (.int l5)]) (st' := [.int l5, .ref l0]) (h' := h) rfl ?_
    refine mX_ck (k' := 11) (ls' := [some (.ref l0), some (.int l1), some (.int l2), some (.int l3), some (.int l4), some (.int l5)]) (st' := [.int (gI h l0 (ix l5))]) (h' := h) rfl ?_
    refine mX_to 1 (k' := 12) (ls' := [some (.ref l0), some (.int l1), some (.int l2), some (.int l3), some (.int l4), some (.int l5)]) (st' := [.int l4, .int (gI h l0 (ix l5))]) (h' := h) rfl ?_
    refine mX_br (t := 13) (f := 15) (ls' := [some (.ref l0), some (.int l1), some (.int l2), some (.int l3), some (.int l4), some (.int l5)]) (st' := []) (h' := h) rfl ?_ ?_
    · refine mX_to 1 (k' := 14) (ls' := [some (.ref l0), some (.int l1), some (.int l2), some (.int l3), some (.int l4), some (.int l5)]) (st' := [.int l5]) (h' := h) rfl ?_
      exact mX_reti rfl
    · refine mX_to 2 (k' := 5) (ls' := [some (.ref l0), some (.int l1), some (.int l2), some (.int l3), some (.int l4), some (.int (l5 + 1))]) (st' := []) (h' := h) rfl ?_
      rfl
  · refine mX_to 1 (k' := 18) (ls' := [some (.ref l0), some (.int l1), some (.int l2), some (.int l3), some (.int l4), some (.int l5)]) (st' := [.int (-1)]) (h' := h) rfl ?_
    exact mX_reti rfl
theorem D_J1_indexOfChar_4cfef (d : Nat) (h : MH) (a0 : Nat) (a1 : Int32) (a2 : Int32) (a3 : Int32) : mE mtab (d + 1) 50 [.ref a0, .int a1, .int a2, .int a3] h = lt_ ((a1 : Int32).toInt8.toInt32) fun v1 => mX (mE mtab d) KJ1_indexOfChar_4cfef 5 [some (.ref a0), some (.int a1), some (.int a2), some (.int a3), some (.int v1), some (.int a2)] [] h := by
  refine mE_eq (q := (yJ1_indexOfChar_4cfef, cJ1_indexOfChar_4cfef, 6, (some .int), KJ1_indexOfChar_4cfef)) (C := KJ1_indexOfChar_4cfef) (ls := [some (.ref a0), some (.int a1), some (.int a2), some (.int a3), none, none]) rfl rfl rfl rfl ?_
  refine mX_to 2 (k' := 2) (ls' := [some (.ref a0), some (.int a1), some (.int a2), some (.int a3), none, none]) (st' := [.int ((a1 : Int32).toInt8.toInt32)]) (h' := h) rfl ?_
  refine lt_gen (X := fun v1 : Int32 => mX (mE mtab d) KJ1_indexOfChar_4cfef 2 [some (.ref a0), some (.int a1), some (.int a2), some (.int a3), none, none] [.int v1] h) fun v1 => ?_
  refine mX_to 3 (k' := 5) (ls' := [some (.ref a0), some (.int a1), some (.int a2), some (.int a3), some (.int v1), some (.int a2)]) (st' := []) (h' := h) rfl ?_
  rfl
theorem D_J1_indexOf_4cfef (d : Nat) (h : MH) (a0 : Nat) (a1 : Int32) (a2 : Int32) (a3 : Int32) : mE mtab (d + 1) 51 [.ref a0, .int a1, .int a2, .int a3] h = cI (mE mtab d 49 [.int a1] h) (fun x2 h1 => (if x2 = 0 then some (.int (-1), h1) else lt_ (jmax a2 0) fun v3 => ck (20 ≤ kd h1 a0 ∧ ¬ kd h1 a0 = 25 ∧ kd h1 a0 ≤ 26) (lt_ (jmin a3 (nI (ln h1 a0))) fun v4 => (if v3 < v4 then cI (mE mtab d 50 [.ref a0, .int a1, .int v3, .int v4] h1) (fun x6 h5 => some (.int x6, h5)) else some (.int (-1), h1))))) := by
  refine mE_eq (q := (yJ1_indexOf_4cfef, cJ1_indexOf_4cfef, 4, (some .int), KJ1_indexOf_4cfef)) (C := KJ1_indexOf_4cfef) (ls := [some (.ref a0), some (.int a1), some (.int a2), some (.int a3)]) rfl rfl rfl rfl ?_
  refine mX_to 1 (k' := 1) (ls' := [some (.ref a0), some (.int a1), some (.int a2), some (.int a3)]) (st' := [.int a1]) (h' := h) rfl ?_
  refine mX_cI (o := mE mtab d 49 [.int a1] h) (k' := 2) (ls' := [some (.ref a0), some (.int a1), some (.int a2), some (.int a3)]) (st' := []) rfl ?_
  intro x2 h1
  refine mX_br (t := 3) (f := 5) (ls' := [some (.ref a0), some (.int a1), some (.int a2), some (.int a3)]) (st' := []) (h' := h1) rfl ?_ ?_
  · refine mX_to 1 (k' := 4) (ls' := [some (.ref a0), some (.int a1), some (.int a2), some (.int a3)]) (st' := [.int (-1)]) (h' := h1) rfl ?_
    exact mX_reti rfl
  · refine mX_to 3 (k' := 8) (ls' := [some (.ref a0), some (.int a1), some (.int a2), some (.int a3)]) (st' := [.int (jmax a2 0)]) (h' := h1) rfl ?_
    refine lt_gen (X := fun v3 : Int32 => mX (mE mtab d) KJ1_indexOf_4cfef 8 [some (.ref a0), some (.int a1), some (.int a2), some (.int a3)] [.int v3] h1) fun v3 => ?_
    refine mX_to 3 (k' := 11) (ls' := [some (.ref a0), some (.int a1), some (.int v3), some (.int a3)]) (st' := [.ref a0, .int a3]) (h' := h1) rfl ?_
    refine mX_ck (k' := 12) (ls' := [some (.ref a0), some (.int a1), some (.int v3), some (.int a3)]) (st' := [.int (nI (ln h1 a0)), .int a3]) (h' := h1) rfl ?_
    refine mX_to 1 (k' := 13) (ls' := [some (.ref a0), some (.int a1), some (.int v3), some (.int a3)]) (st' := [.int (jmin a3 (nI (ln h1 a0)))]) (h' := h1) rfl ?_
    refine lt_gen (X := fun v4 : Int32 => mX (mE mtab d) KJ1_indexOf_4cfef 13 [some (.ref a0), some (.int a1), some (.int v3), some (.int a3)] [.int v4] h1) fun v4 => ?_
    refine mX_to 3 (k' := 16) (ls' := [some (.ref a0), some (.int a1), some (.int v3), some (.int v4)]) (st' := [.int v4, .int v3]) (h' := h1) rfl ?_
    refine mX_br (t := 19) (f := 17) (ls' := [some (.ref a0), some (.int a1), some (.int v3), some (.int v4)]) (st' := []) (h' := h1) rfl ?_ ?_
    · refine mX_to 4 (k' := 23) (ls' := [some (.ref a0), some (.int a1), some (.int v3), some (.int v4)]) (st' := [.int v4, .int v3, .int a1, .ref a0]) (h' := h1) rfl ?_
      refine mX_cI (o := mE mtab d 50 [.ref a0, .int a1, .int v3, .int v4] h1) (k' := 24) (ls' := [some (.ref a0), some (.int a1), some (.int v3), some (.int v4)]) (st' := []) rfl ?_
      intro x6 h5
      exact mX_reti rfl
    · refine mX_to 1 (k' := 18) (ls' := [some (.ref a0), some (.int a1), some (.int v3), some (.int v4)]) (st' := [.int (-1)]) (h' := h1) rfl ?_
      exact mX_reti rfl
theorem D_J3_checkFromToIndex_8c36e_8 (d : Nat) (h : MH) (l0 : Int32) (l1 : Int32) (l2 : Int32) (l3 : Nat) : mX (mE mtab d) KJ3_checkFromToIndex_8c36e 8 [some (.int l0), some (.int l1), some (.int l2), some (.retAddr l3)] [] h = none := by
  exact mX_bad rfl
theorem D_J3_checkFromToIndex_8c36e (d : Nat) (h : MH) (a0 : Int32) (a1 : Int32) (a2 : Int32) (a3 : Nat) : mE mtab (d + 1) 52 [.int a0, .int a1, .int a2, .retAddr a3] h = (if a0 < 0 then mX (mE mtab d) KJ3_checkFromToIndex_8c36e 8 [some (.int a0), some (.int a1), some (.int a2), some (.retAddr a3)] [] h else (if a0 ≤ a1 then (if a1 ≤ a2 then some (.int a0, h) else mX (mE mtab d) KJ3_checkFromToIndex_8c36e 8 [some (.int a0), some (.int a1), some (.int a2), some (.retAddr a3)] [] h) else mX (mE mtab d) KJ3_checkFromToIndex_8c36e 8 [some (.int a0), some (.int a1), some (.int a2), some (.retAddr a3)] [] h)) := by
  refine mE_eq (q := (yJ3_checkFromToIndex_8c36e, cJ3_checkFromToIndex_8c36e, 4, (some .int), KJ3_checkFromToIndex_8c36e)) (C := KJ3_checkFromToIndex_8c36e) (ls := [some (.int a0), some (.int a1), some (.int a2), some (.retAddr a3)]) rfl rfl rfl rfl ?_
  refine mX_to 1 (k' := 1) (ls' := [some (.int a0), some (.int a1), some (.int a2), some (.retAddr a3)]) (st' := [.int a0]) (h' := h) rfl ?_
  refine mX_br (t := 8) (f := 2) (ls' := [some (.int a0), some (.int a1), some (.int a2), some (.retAddr a3)]) (st' := []) (h' := h) rfl ?_ ?_
  · rfl
  · refine mX_to 2 (k' := 4) (ls' := [some (.int a0), some (.int a1), some (.int a2), some (.retAddr a3)]) (st' := [.int a1, .int a0]) (h' := h) rfl ?_
    refine mX_br (t := 5) (f := 8) (ls' := [some (.int a0), some (.int a1), some (.int a2), some (.retAddr a3)]) (st' := []) (h' := h) rfl ?_ ?_
    · refine mX_to 2 (k' := 7) (ls' := [some (.int a0), some (.int a1), some (.int a2), some (.retAddr a3)]) (st' := [.int a2, .int a1]) (h' := h) rfl ?_
      refine mX_br (t := 14) (f := 8) (ls' := [some (.int a0), some (.int a1), some (.int a2), some (.retAddr a3)]) (st' := []) (h' := h) rfl ?_ ?_
      · refine mX_to 1 (k' := 15) (ls' := [some (.int a0), some (.int a1), some (.int a2), some (.retAddr a3)]) (st' := [.int a0]) (h' := h) rfl ?_
        exact mX_reti rfl
      · rfl
    · rfl
theorem D_J0_checkBoundsBeginEnd_23922 (d : Nat) (h : MH) (a0 : Int32) (a1 : Int32) (a2 : Int32) : mE mtab (d + 1) 53 [.int a0, .int a1, .int a2] h = cI (mE mtab d 52 [.int a0, .int a1, .int a2, .retAddr 0] h) (fun x2 h1 => some (.int 0, h1)) := by
  refine mE_eq (q := (yJ0_checkBoundsBeginEnd_23922, cJ0_checkBoundsBeginEnd_23922, 3, none, KJ0_checkBoundsBeginEnd_23922)) (C := KJ0_checkBoundsBeginEnd_23922) (ls := [some (.int a0), some (.int a1), some (.int a2)]) rfl rfl rfl rfl ?_
  refine mX_to 4 (k' := 4) (ls' := [some (.int a0), some (.int a1), some (.int a2)]) (st' := [.retAddr 0, .int a2, .int a1, .int a0]) (h' := h) rfl ?_
  refine mX_cI (o := mE mtab d 52 [.int a0, .int a1, .int a2, .retAddr 0] h) (k' := 5) (ls' := [some (.int a0), some (.int a1), some (.int a2)]) (st' := []) rfl ?_
  intro x2 h1
  refine mX_to 1 (k' := 6) (ls' := [some (.int a0), some (.int a1), some (.int a2)]) (st' := []) (h' := h1) rfl ?_
  exact mX_ret rfl
theorem D_J2_checkBoundsBeginEnd_d044e (d : Nat) (h : MH) (a0 : Int32) (a1 : Int32) (a2 : Nat) : mE mtab (d + 1) 54 [.int a0, .int a1, .ref a2] h = cI (mE mtab d 42 [.ref a2] h) (fun x2 h1 => cV (mE mtab d 53 [.int a0, .int a1, .int x2] h1) (fun h3 => some (.int 0, h3))) := by
  refine mE_eq (q := (yJ2_checkBoundsBeginEnd_d044e, cJ2_checkBoundsBeginEnd_d044e, 3, none, KJ2_checkBoundsBeginEnd_d044e)) (C := KJ2_checkBoundsBeginEnd_d044e) (ls := [some (.int a0), some (.int a1), some (.ref a2)]) rfl rfl rfl rfl ?_
  refine mX_to 3 (k' := 3) (ls' := [some (.int a0), some (.int a1), some (.ref a2)]) (st' := [.ref a2, .int a1, .int a0]) (h' := h) rfl ?_
  refine mX_cI (o := mE mtab d 42 [.ref a2] h) (k' := 4) (ls' := [some (.int a0), some (.int a1), some (.ref a2)]) (st' := [.int a1, .int a0]) rfl ?_
  intro x2 h1
  refine mX_cV (o := mE mtab d 53 [.int a0, .int a1, .int x2] h1) (k' := 5) (ls' := [some (.int a0), some (.int a1), some (.ref a2)]) (st' := []) rfl ?_
  intro h3
  exact mX_ret rfl
theorem D_J2_indexOfCharUnsafe_4cfef_2 (d : Nat) (h : MH) (l0 : Nat) (l1 : Int32) (l2 : Int32) (l3 : Int32) (l4 : Int32) : mX (mE mtab d) KJ2_indexOfCharUnsafe_4cfef 2 [some (.ref l0), some (.int l1), some (.int l2), some (.int l3), some (.int l4)] [] h = (if l4 < l3 then cI (mE mtab d 44 [.ref l0, .int l4] h) (fun x2 h1 => (if x2 = l1 then some (.int l4, h1) else mX (mE mtab d) KJ2_indexOfCharUnsafe_4cfef 2 [some (.ref l0), some (.int l1), some (.int l2), some (.int l3), some (.int (l4 + 1))] [] h1)) else some (.int (-1), h)) := by
  refine mX_to 2 (k' := 4) (ls' := [some (.ref l0), some (.int l1), some (.int l2), some (.int l3), some (.int l4)]) (st' := [.int l3, .int l4]) (h' := h) rfl ?_
  refine mX_br (t := 5) (f := 14) (ls' := [some (.ref l0), some (.int l1), some (.int l2), some (.int l3), some (.int l4)]) (st' := []) (h' := h) rfl ?_ ?_
  · refine mX_to 2 (k' := 7) (ls' := [some (.ref l0), some (.int l1), some (.int l2), some (.int l3), some (.int l4)]) (st' := [.int l4, .ref l0]) (h' := h) rfl ?_
    refine mX_cI (o := mE mtab d 44 [.ref l0, .int l4] h) (k' := 8) (ls' := [some (.ref l0), some (.int l1), some (.int l2), some (.int l3), some (.int l4)]) (st' := []) rfl ?_
    intro x2 h1
    refine mX_to 1 (k' := 9) (ls' := [some (.ref l0), some (.int l1), some (.int l2), some (.int l3), some (.int l4)]) (st' := [.int l1, .int x2]) (h' := h1) rfl ?_
    refine mX_br (t := 10) (f := 12) (ls' := [some (.ref l0), some (.int l1), some (.int l2), some (.int l3), some (.int l4)]) (st' := []) (h' := h1) rfl ?_ ?_
    · refine mX_to 1 (k' := 11) (ls' := [some (.ref l0), some (.int l1), some (.int l2), some (.int l3), some (.int l4)]) (st' := [.int l4]) (h' := h1) rfl ?_
      exact mX_reti rfl
    · refine mX_to 2 (k' := 2) (ls' := [some (.ref l0), some (.int l1), some (.int l2), some (.int l3), some (.int (l4 + 1))]) (st' := []) (h' := h1) rfl ?_
      rfl
  · refine mX_to 1 (k' := 15) (ls' := [some (.ref l0), some (.int l1), some (.int l2), some (.int l3), some (.int l4)]) (st' := [.int (-1)]) (h' := h) rfl ?_
    exact mX_reti rfl
theorem D_J2_indexOfCharUnsafe_4cfef (d : Nat) (h : MH) (a0 : Nat) (a1 : Int32) (a2 : Int32) (a3 : Int32) : mE mtab (d + 1) 55 [.ref a0, .int a1, .int a2, .int a3] h = mX (mE mtab d) KJ2_indexOfCharUnsafe_4cfef 2 [some (.ref a0), some (.int a1), some (.int a2), some (.int a3), some (.int a2)] [] h := by
  refine mE_eq (q := (yJ2_indexOfCharUnsafe_4cfef, cJ2_indexOfCharUnsafe_4cfef, 5, (some .int), KJ2_indexOfCharUnsafe_4cfef)) (C := KJ2_indexOfCharUnsafe_4cfef) (ls := [some (.ref a0), some (.int a1), some (.int a2), some (.int a3), none]) rfl rfl rfl rfl ?_
  refine mX_to 2 (k' := 2) (ls' := [some (.ref a0), some (.int a1), some (.int a2), some (.int a3), some (.int a2)]) (st' := []) (h' := h) rfl ?_
  rfl
theorem D_J2_indexOfChar_4cfef (d : Nat) (h : MH) (a0 : Nat) (a1 : Int32) (a2 : Int32) (a3 : Int32) : mE mtab (d + 1) 56 [.ref a0, .int a1, .int a2, .int a3] h = cV (mE mtab d 54 [.int a2, .int a3, .ref a0] h) (fun h1 => cI (mE mtab d 55 [.ref a0, .int a1, .int a2, .int a3] h1) (fun x3 h2 => some (.int x3, h2))) := by
  refine mE_eq (q := (yJ2_indexOfChar_4cfef, cJ2_indexOfChar_4cfef, 4, (some .int), KJ2_indexOfChar_4cfef)) (C := KJ2_indexOfChar_4cfef) (ls := [some (.ref a0), some (.int a1), some (.int a2), some (.int a3)]) rfl rfl rfl rfl ?_
  refine mX_to 3 (k' := 3) (ls' := [some (.ref a0), some (.int a1), some (.int a2), some (.int a3)]) (st' := [.ref a0, .int a3, .int a2]) (h' := h) rfl ?_
  refine mX_cV (o := mE mtab d 54 [.int a2, .int a3, .ref a0] h) (k' := 4) (ls' := [some (.ref a0), some (.int a1), some (.int a2), some (.int a3)]) (st' := []) rfl ?_
  intro h1
  refine mX_to 4 (k' := 8) (ls' := [some (.ref a0), some (.int a1), some (.int a2), some (.int a3)]) (st' := [.int a3, .int a2, .int a1, .ref a0]) (h' := h1) rfl ?_
  refine mX_cI (o := mE mtab d 55 [.ref a0, .int a1, .int a2, .int a3] h1) (k' := 9) (ls' := [some (.ref a0), some (.int a1), some (.int a2), some (.int a3)]) (st' := []) rfl ?_
  intro x3 h2
  exact mX_reti rfl
theorem D_J11_isValidCodePoint_9a6ad (d : Nat) (h : MH) (a0 : Int32) : mE mtab (d + 1) 57 [.int a0] h = lt_ ((a0.toUInt32 >>> ((16 : Int32).toUInt32 &&& Int32.toUInt32 31)).toInt32) fun v1 => (if v1 < 17 then some (.int 1, h) else some (.int 0, h)) := by
  refine mE_eq (q := (yJ11_isValidCodePoint_9a6ad, cJ11_isValidCodePoint_9a6ad, 2, (some .boolean), KJ11_isValidCodePoint_9a6ad)) (C := KJ11_isValidCodePoint_9a6ad) (ls := [some (.int a0), none]) rfl rfl rfl rfl ?_
  refine mX_to 3 (k' := 3) (ls' := [some (.int a0), none]) (st' := [.int ((a0.toUInt32 >>> ((16 : Int32).toUInt32 &&& Int32.toUInt32 31)).toInt32)]) (h' := h) rfl ?_
  refine lt_gen (X := fun v1 : Int32 => mX (mE mtab d) KJ11_isValidCodePoint_9a6ad 3 [some (.int a0), none] [.int v1] h) fun v1 => ?_
  refine mX_to 3 (k' := 6) (ls' := [some (.int a0), some (.int v1)]) (st' := [.int 17, .int v1]) (h' := h) rfl ?_
  refine mX_br (t := 7) (f := 9) (ls' := [some (.int a0), some (.int v1)]) (st' := []) (h' := h) rfl ?_ ?_
  · refine mX_to 2 (k' := 10) (ls' := [some (.int a0), some (.int v1)]) (st' := [.int 1]) (h' := h) rfl ?_
    exact mX_retb (by decide) rfl
  · refine mX_to 1 (k' := 10) (ls' := [some (.int a0), some (.int v1)]) (st' := [.int 0]) (h' := h) rfl ?_
    exact mX_retb (by decide) rfl
theorem D_J11_highSurrogate_5068e (d : Nat) (h : MH) (a0 : Int32) : mE mtab (d + 1) 58 [.int a0] h = ck (mrt 2 ((((((a0.toUInt32 >>> ((10 : Int32).toUInt32 &&& Int32.toUInt32 31)).toInt32) + 55232) : Int32).toUInt32 % 65536).toInt32)) (some (.int ((((((a0.toUInt32 >>> ((10 : Int32).toUInt32 &&& Int32.toUInt32 31)).toInt32) + 55232) : Int32).toUInt32 % 65536).toInt32), h)) := by
  refine mE_eq (q := (yJ11_highSurrogate_5068e, cJ11_highSurrogate_5068e, 1, (some .char), KJ11_highSurrogate_5068e)) (C := KJ11_highSurrogate_5068e) (ls := [some (.int a0)]) rfl rfl rfl rfl ?_
  refine mX_to 6 (k' := 6) (ls' := [some (.int a0)]) (st' := [.int ((((((a0.toUInt32 >>> ((10 : Int32).toUInt32 &&& Int32.toUInt32 31)).toInt32) + 55232) : Int32).toUInt32 % 65536).toInt32)]) (h' := h) rfl ?_
  exact mX_retc rfl
theorem D_J11_lowSurrogate_5068e (d : Nat) (h : MH) (a0 : Int32) : mE mtab (d + 1) 59 [.int a0] h = ck (mrt 2 (((((a0 &&& 1023) + 56320) : Int32).toUInt32 % 65536).toInt32)) (some (.int (((((a0 &&& 1023) + 56320) : Int32).toUInt32 % 65536).toInt32), h)) := by
  refine mE_eq (q := (yJ11_lowSurrogate_5068e, cJ11_lowSurrogate_5068e, 1, (some .char), KJ11_lowSurrogate_5068e)) (C := KJ11_lowSurrogate_5068e) (ls := [some (.int a0)]) rfl rfl rfl rfl ?_
  refine mX_to 6 (k' := 6) (ls' := [some (.int a0)]) (st' := [.int (((((a0 &&& 1023) + 56320) : Int32).toUInt32 % 65536).toInt32)]) (h' := h) rfl ?_
  exact mX_retc rfl
theorem D_J2_indexOfSupplementary_4cfef_15 (d : Nat) (h : MH) (l0 : Nat) (l1 : Int32) (l2 : Int32) (l3 : Int32) (l4 : Int32) (l5 : Int32) (l6 : Int32) : mX (mE mtab d) KJ2_indexOfSupplementary_4cfef 15 [some (.ref l0), some (.int l1), some (.int l2), some (.int l3), some (.int l4), some (.int l5), some (.int l6)] [] h = (if l6 < (l3 - 1) then cI (mE mtab d 44 [.ref l0, .int l6] h) (fun x9 h8 => (if x9 = l4 then cI (mE mtab d 44 [.ref l0, .int (l6 + 1)] h8) (fun x11 h10 => (if x11 = l5 then some (.int l6, h10) else mX (mE mtab d) KJ2_indexOfSupplementary_4cfef 34 [some (.ref l0), some (.int l1), some (.int l2), some (.int l3), some (.int l4), some (.int l5), some (.int l6)] [] h10)) else mX (mE mtab d) KJ2_indexOfSupplementary_4cfef 34 [some (.ref l0), some (.int l1), some (.int l2), some (.int l3), some (.int l4), some (.int l5), some (.int l6)] [] h8)) else some (.int (-1), h)) := by
  refine mX_to 4 (k' := 19) (ls' := [some (.ref l0), some (.int l1), some (.int l2), some (.int l3), some (.int l4), some (.int l5), some (.int l6)]) (st' := [.int (l3 - 1), .int l6]) (h' := h) rfl ?_
  refine mX_br (t := 20) (f := 36) (ls' := [some (.ref l0), some (.int l1), some (.int l2), some (.int l3), some (.int l4), some (.int l5), some (.int l6)]) (st' := []) (h' := h) rfl ?_ ?_
  · refine mX_to 2 (k' := 22) (ls' := [some (.ref l0), some (.int l1), some (.int l2), some (.int l3), some (.int l4), some (.int l5), some (.int l6)]) (st' := [.int l6, .ref l0]) (h' := h) rfl ?_
    refine mX_cI (o := mE mtab d 44 [.ref l0, .int l6] h) (k' := 23) (ls' := [some (.ref l0), some (.int l1), some (.int l2), some (.int l3), some (.int l4), some (.int l5), some (.int l6)]) (st' := []) rfl ?_
    intro x9 h8
    refine mX_to 1 (k' := 24) (ls' := [some (.ref l0), some (.int l1), some (.int l2), some (.int l3), some (.int l4), some (.int l5), some (.int l6)]) (st' := [.int l4, .int x9]) (h' := h8) rfl ?_
    refine mX_br (t := 25) (f := 34) (ls' := [some (.ref l0), some (.int l1), some (.int l2), some (.int l3), some (.int l4), some (.int l5), some (.int l6)]) (st' := []) (h' := h8) rfl ?_ ?_
    · refine mX_to 4 (k' := 29) (ls' := [some (.ref l0), some (.int l1), some (.int l2), some (.int l3), some (.int l4), some (.int l5), some (.int l6)]) (st' := [.int (l6 + 1), .ref l0]) (h' := h8) rfl ?_
      refine mX_cI (o := mE mtab d 44 [.ref l0, .int (l6 + 1)] h8) (k' := 30) (ls' := [some (.ref l0), some (.int l1), some (.int l2), some (.int l3), some (.int l4), some (.int l5), some (.int l6)]) (st' := []) rfl ?_
      intro x11 h10
      refine mX_to 1 (k' := 31) (ls' := [some (.ref l0), some (.int l1), some (.int l2), some (.int l3), some (.int l4), some (.int l5), some (.int l6)]) (st' := [.int l5, .int x11]) (h' := h10) rfl ?_
      refine mX_br (t := 32) (f := 34) (ls' := [some (.ref l0), some (.int l1), some (.int l2), some (.int l3), some (.int l4), some (.int l5), some (.int l6)]) (st' := []) (h' := h10) rfl ?_ ?_
      · refine mX_to 1 (k' := 33) (ls' := [some (.ref l0), some (.int l1), some (.int l2), some (.int l3), some (.int l4), some (.int l5), some (.int l6)]) (st' := [.int l6]) (h' := h10) rfl ?_
        exact mX_reti rfl
      · rfl
    · rfl
  · refine mX_to 1 (k' := 37) (ls' := [some (.ref l0), some (.int l1), some (.int l2), some (.int l3), some (.int l4), some (.int l5), some (.int l6)]) (st' := [.int (-1)]) (h' := h) rfl ?_
    exact mX_reti rfl
theorem D_J2_indexOfSupplementary_4cfef_34 (d : Nat) (h : MH) (l0 : Nat) (l1 : Int32) (l2 : Int32) (l3 : Int32) (l4 : Int32) (l5 : Int32) (l6 : Int32) : mX (mE mtab d) KJ2_indexOfSupplementary_4cfef 34 [some (.ref l0), some (.int l1), some (.int l2), some (.int l3), some (.int l4), some (.int l5), some (.int l6)] [] h = mX (mE mtab d) KJ2_indexOfSupplementary_4cfef 15 [some (.ref l0), some (.int l1), some (.int l2), some (.int l3), some (.int l4), some (.int l5), some (.int (l6 + 1))] [] h := by
  refine mX_to 2 (k' := 15) (ls' := [some (.ref l0), some (.int l1), some (.int l2), some (.int l3), some (.int l4), some (.int l5), some (.int (l6 + 1))]) (st' := []) (h' := h) rfl ?_
  rfl
theorem D_J2_indexOfSupplementary_4cfef (d : Nat) (h : MH) (a0 : Nat) (a1 : Int32) (a2 : Int32) (a3 : Int32) : mE mtab (d + 1) 60 [.ref a0, .int a1, .int a2, .int a3] h = cI (mE mtab d 57 [.int a1] h) (fun x2 h1 => (if x2 = 0 then some (.int (-1), h1) else cI (mE mtab d 58 [.int a1] h1) (fun x4 h3 => cI (mE mtab d 59 [.int a1] h3) (fun x6 h5 => cV (mE mtab d 54 [.int a2, .int a3, .ref a0] h5) (fun h7 => mX (mE mtab d) KJ2_indexOfSupplementary_4cfef 15 [some (.ref a0), some (.int a1), some (.int a2), some (.int a3), some (.int x4), some (.int x6), some (.int a2)] [] h7))))) := by
  refine mE_eq (q := (yJ2_indexOfSupplementary_4cfef, cJ2_indexOfSupplementary_4cfef, 7, (some .int), KJ2_indexOfSupplementary_4cfef)) (C := KJ2_indexOfSupplementary_4cfef) (ls := [some (.ref a0), some (.int a1), some (.int a2), some (.int a3), none, none, none]) rfl rfl rfl rfl ?_
  refine mX_to 1 (k' := 1) (ls' := [some (.ref a0), some (.int a1), some (.int a2), some (.int a3), none, none, none]) (st' := [.int a1]) (h' := h) rfl ?_
  refine mX_cI (o := mE mtab d 57 [.int a1] h) (k' := 2) (ls' := [some (.ref a0), some (.int a1), some (.int a2), some (.int a3), none, none, none]) (st' := []) rfl ?_
  intro x2 h1
  refine mX_br (t := 36) (f := 3) (ls' := [some (.ref a0), some (.int a1), some (.int a2), some (.int a3), none, none, none]) (st' := []) (h' := h1) rfl ?_ ?_
  · refine mX_to 1 (k' := 37) (ls' := [some (.ref a0), some (.int a1), some (.int a2), some (.int a3), none, none, none]) (st' := [.int (-1)]) (h' := h1) rfl ?_
    exact mX_reti rfl
  · refine mX_to 1 (k' := 4) (ls' := [some (.ref a0), some (.int a1), some (.int a2), some (.int a3), none, none, none]) (st' := [.int a1]) (h' := h1) rfl ?_
    refine mX_cI (o := mE mtab d 58 [.int a1] h1) (k' := 5) (ls' := [some (.ref a0), some (.int a1), some (.int a2), some (.int a3), none, none, none]) (st' := []) rfl ?_
    intro x4 h3
    refine mX_to 2 (k' := 7) (ls' := [some (.ref a0), some (.int a1), some (.int a2), some (.int a3), some (.int x4), none, none]) (st' := [.int a1]) (h' := h3) rfl ?_
    refine mX_cI (o := mE mtab d 59 [.int a1] h3) (k' := 8) (ls' := [some (.ref a0), some (.int a1), some (.int a2), some (.int a3), some (.int x4), none, none]) (st' := []) rfl ?_
    intro x6 h5
    refine mX_to 4 (k' := 12) (ls' := [some (.ref a0), some (.int a1), some (.int a2), some (.int a3), some (.int x4), some (.int x6), none]) (st' := [.ref a0, .int a3, .int a2]) (h' := h5) rfl ?_
    refine mX_cV (o := mE mtab d 54 [.int a2, .int a3, .ref a0] h5) (k' := 13) (ls' := [some (.ref a0), some (.int a1), some (.int a2), some (.int a3), some (.int x4), some (.int x6), none]) (st' := []) rfl ?_
    intro h7
    refine mX_to 2 (k' := 15) (ls' := [some (.ref a0), some (.int a1), some (.int a2), some (.int a3), some (.int x4), some (.int x6), some (.int a2)]) (st' := []) (h' := h7) rfl ?_
    rfl
theorem D_J2_indexOf_4cfef (d : Nat) (h : MH) (a0 : Nat) (a1 : Int32) (a2 : Int32) (a3 : Int32) : mE mtab (d + 1) 61 [.ref a0, .int a1, .int a2, .int a3] h = lt_ (jmax a2 0) fun v1 => ck (20 ≤ kd h a0 ∧ ¬ kd h a0 = 25 ∧ kd h a0 ≤ 26) (lt_ (jmin a3 ((nI (ln h a0)) >>> (1 &&& 31))) fun v2 => (if v1 < v2 then (if a1 < 65536 then cI (mE mtab d 56 [.ref a0, .int a1, .int v1, .int v2] h) (fun x4 h3 => some (.int x4, h3)) else cI (mE mtab d 60 [.ref a0, .int a1, .int v1, .int v2] h) (fun x6 h5 => some (.int x6, h5))) else some (.int (-1), h))) := by
  refine mE_eq (q := (yJ2_indexOf_4cfef, cJ2_indexOf_4cfef, 4, (some .int), KJ2_indexOf_4cfef)) (C := KJ2_indexOf_4cfef) (ls := [some (.ref a0), some (.int a1), some (.int a2), some (.int a3)]) rfl rfl rfl rfl ?_
  refine mX_to 3 (k' := 3) (ls' := [some (.ref a0), some (.int a1), some (.int a2), some (.int a3)]) (st' := [.int (jmax a2 0)]) (h' := h) rfl ?_
  refine lt_gen (X := fun v1 : Int32 => mX (mE mtab d) KJ2_indexOf_4cfef 3 [some (.ref a0), some (.int a1), some (.int a2), some (.int a3)] [.int v1] h) fun v1 => ?_
  refine mX_to 3 (k' := 6) (ls' := [some (.ref a0), some (.int a1), some (.int v1), some (.int a3)]) (st' := [.ref a0, .int a3]) (h' := h) rfl ?_
  refine mX_ck (k' := 7) (ls' := [some (.ref a0), some (.int a1), some (.int v1), some (.int a3)]) (st' := [.int (nI (ln h a0)), .int a3]) (h' := h) rfl ?_
  refine mX_to 3 (k' := 10) (ls' := [some (.ref a0), some (.int a1), some (.int v1), some (.int a3)]) (st' := [.int (jmin a3 ((nI (ln h a0)) >>> (1 &&& 31)))]) (h' := h) rfl ?_
  refine lt_gen (X := fun v2 : Int32 => mX (mE mtab d) KJ2_indexOf_4cfef 10 [some (.ref a0), some (.int a1), some (.int v1), some (.int a3)] [.int v2] h) fun v2 => ?_
  refine mX_to 3 (k' := 13) (ls' := [some (.ref a0), some (.int a1), some (.int v1), some (.int v2)]) (st' := [.int v2, .int v1]) (h' := h) rfl ?_
  refine mX_br (t := 16) (f := 14) (ls' := [some (.ref a0), some (.int a1), some (.int v1), some (.int v2)]) (st' := []) (h' := h) rfl ?_ ?_
  · refine mX_to 2 (k' := 18) (ls' := [some (.ref a0), some (.int a1), some (.int v1), some (.int v2)]) (st' := [.int 65536, .int a1]) (h' := h) rfl ?_
    refine mX_br (t := 19) (f := 25) (ls' := [some (.ref a0), some (.int a1), some (.int v1), some (.int v2)]) (st' := []) (h' := h) rfl ?_ ?_
    · refine mX_to 4 (k' := 23) (ls' := [some (.ref a0), some (.int a1), some (.int v1), some (.int v2)]) (st' := [.int v2, .int v1, .int a1, .ref a0]) (h' := h) rfl ?_
      refine mX_cI (o := mE mtab d 56 [.ref a0, .int a1, .int v1, .int v2] h) (k' := 24) (ls' := [some (.ref a0), some (.int a1), some (.int v1), some (.int v2)]) (st' := []) rfl ?_
      intro x4 h3
      exact mX_reti rfl
    · refine mX_to 4 (k' := 29) (ls' := [some (.ref a0), some (.int a1), some (.int v1), some (.int v2)]) (st' := [.int v2, .int v1, .int a1, .ref a0]) (h' := h) rfl ?_
      refine mX_cI (o := mE mtab d 60 [.ref a0, .int a1, .int v1, .int v2] h) (k' := 30) (ls' := [some (.ref a0), some (.int a1), some (.int v1), some (.int v2)]) (st' := []) rfl ?_
      intro x6 h5
      exact mX_reti rfl
  · refine mX_to 1 (k' := 15) (ls' := [some (.ref a0), some (.int a1), some (.int v1), some (.int v2)]) (st' := [.int (-1)]) (h' := h) rfl ?_
    exact mX_reti rfl
theorem D_J0_indexOf_7cf53 (d : Nat) (h : MH) (a0 : Nat) (a1 : Int32) (a2 : Int32) : mE mtab (d + 1) 62 [.ref a0, .int a1, .int a2] h = ck (kd h a0 = 25) (cI (mE mtab d 38 [.ref a0] h) (fun x2 h1 => (if x2 = 0 then ck (kd h1 a0 = 25) (ck (kd h1 a0 = 25) (cI (mE mtab d 37 [.ref a0] h1) (fun x4 h3 => cI (mE mtab d 61 [.ref (gR h1 a0 0), .int a1, .int a2, .int x4] h3) (fun x6 h5 => some (.int x6, h5))))) else ck (kd h1 a0 = 25) (ck (kd h1 a0 = 25) (cI (mE mtab d 37 [.ref a0] h1) (fun x8 h7 => cI (mE mtab d 51 [.ref (gR h1 a0 0), .int a1, .int a2, .int x8] h7) (fun x10 h9 => some (.int x10, h9)))))))) := by
  refine mE_eq (q := (yJ0_indexOf_7cf53, cJ0_indexOf_7cf53, 3, (some .int), KJ0_indexOf_7cf53)) (C := KJ0_indexOf_7cf53) (ls := [some (.ref a0), some (.int a1), some (.int a2)]) rfl rfl rfl rfl ?_
  refine mX_to 1 (k' := 1) (ls' := [some (.ref a0), some (.int a1), some (.int a2)]) (st' := [.ref a0]) (h' := h) rfl ?_
  refine mX_ckc (m := mcl (mE mtab d 38 [.ref a0] h) 1 2 [some (.ref a0), some (.int a1), some (.int a2)] []) rfl ?_
  refine mk_cI ?_
  intro x2 h1
  refine mX_br (t := 11) (f := 3) (ls' := [some (.ref a0), some (.int a1), some (.int a2)]) (st' := []) (h' := h1) rfl ?_ ?_
  · refine mX_to 1 (k' := 12) (ls' := [some (.ref a0), some (.int a1), some (.int a2)]) (st' := [.ref a0]) (h' := h1) rfl ?_
    refine mX_ck (k' := 13) (ls' := [some (.ref a0), some (.int a1), some (.int a2)]) (st' := [.ref (gR h1 a0 0)]) (h' := h1) rfl ?_
    refine mX_to 3 (k' := 16) (ls' := [some (.ref a0), some (.int a1), some (.int a2)]) (st' := [.ref a0, .int a2, .int a1, .ref (gR h1 a0 0)]) (h' := h1) rfl ?_
    refine mX_ckc (m := mcl (mE mtab d 37 [.ref a0] h1) 1 17 [some (.ref a0), some (.int a1), some (.int a2)] [.int a2, .int a1, .ref (gR h1 a0 0)]) rfl ?_
    refine mk_cI ?_
    intro x4 h3
    refine mX_cI (o := mE mtab d 61 [.ref (gR h1 a0 0), .int a1, .int a2, .int x4] h3) (k' := 18) (ls' := [some (.ref a0), some (.int a1), some (.int a2)]) (st' := []) rfl ?_
    intro x6 h5
    exact mX_reti rfl
  · refine mX_to 1 (k' := 4) (ls' := [some (.ref a0), some (.int a1), some (.int a2)]) (st' := [.ref a0]) (h' := h1) rfl ?_
    refine mX_ck (k' := 5) (ls' := [some (.ref a0), some (.int a1), some (.int a2)]) (st' := [.ref (gR h1 a0 0)]) (h' := h1) rfl ?_
    refine mX_to 3 (k' := 8) (ls' := [some (.ref a0), some (.int a1), some (.int a2)]) (st' := [.ref a0, .int a2, .int a1, .ref (gR h1 a0 0)]) (h' := h1) rfl ?_
    refine mX_ckc (m := mcl (mE mtab d 37 [.ref a0] h1) 1 9 [some (.ref a0), some (.int a1), some (.int a2)] [.int a2, .int a1, .ref (gR h1 a0 0)]) rfl ?_
    refine mk_cI ?_
    intro x8 h7
    refine mX_cI (o := mE mtab d 51 [.ref (gR h1 a0 0), .int a1, .int a2, .int x8] h7) (k' := 10) (ls' := [some (.ref a0), some (.int a1), some (.int a2)]) (st' := []) rfl ?_
    intro x10 h9
    refine mX_to 1 (k' := 18) (ls' := [some (.ref a0), some (.int a1), some (.int a2)]) (st' := [.int x10]) (h' := h9) rfl ?_
    exact mX_reti rfl
theorem D_J0_indexOf_0f7a4 (d : Nat) (h : MH) (a0 : Nat) (a1 : Int32) : mE mtab (d + 1) 63 [.ref a0, .int a1] h = ck (kd h a0 = 25) (cI (mE mtab d 62 [.ref a0, .int a1, .int 0] h) (fun x2 h1 => some (.int x2, h1))) := by
  refine mE_eq (q := (yJ0_indexOf_0f7a4, cJ0_indexOf_0f7a4, 2, (some .int), KJ0_indexOf_0f7a4)) (C := KJ0_indexOf_0f7a4) (ls := [some (.ref a0), some (.int a1)]) rfl rfl rfl rfl ?_
  refine mX_to 3 (k' := 3) (ls' := [some (.ref a0), some (.int a1)]) (st' := [.int 0, .int a1, .ref a0]) (h' := h) rfl ?_
  refine mX_ckc (m := mcl (mE mtab d 62 [.ref a0, .int a1, .int 0] h) 1 4 [some (.ref a0), some (.int a1)] []) rfl ?_
  refine mk_cI ?_
  intro x2 h1
  exact mX_reti rfl
theorem D_X7_isSign (d : Nat) (h : MH) (a0 : Int32) : mE mtab (d + 1) 64 [.int a0] h = ck (kd h 5 = 25) (cI (mE mtab d 63 [.ref 5, .int (((a0 : Int32).toUInt32 % 65536).toInt32)] h) (fun x2 h1 => (if x2 < 0 then some (.int 0, h1) else some (.int 1, h1)))) := by
  refine mE_eq (q := (yX7_isSign, cX7_isSign, 1, (some .boolean), KX7_isSign)) (C := KX7_isSign) (ls := [some (.int a0)]) rfl rfl rfl rfl ?_
  refine mX_to 3 (k' := 3) (ls' := [some (.int a0)]) (st' := [.int (((a0 : Int32).toUInt32 % 65536).toInt32), .ref 5]) (h' := h) rfl ?_
  refine mX_ckc (m := mcl (mE mtab d 63 [.ref 5, .int (((a0 : Int32).toUInt32 % 65536).toInt32)] h) 1 4 [some (.int a0)] []) rfl ?_
  refine mk_cI ?_
  intro x2 h1
  refine mX_br (t := 7) (f := 5) (ls' := [some (.int a0)]) (st' := []) (h' := h1) rfl ?_ ?_
  · refine mX_to 1 (k' := 8) (ls' := [some (.int a0)]) (st' := [.int 0]) (h' := h1) rfl ?_
    exact mX_retb (by decide) rfl
  · refine mX_to 2 (k' := 8) (ls' := [some (.int a0)]) (st' := [.int 1]) (h' := h1) rfl ?_
    exact mX_retb (by decide) rfl
theorem D_X7_cutSign_22 (d : Nat) (h : MH) (l0 : Nat) (l1 : Int32) (l2 : Int32) (s0 : Int32) : mX (mE mtab d) KX7_cutSign 22 [some (.ref l0), some (.int l1), some (.int l2), none] [.int s0] h = (if s0 = 0 then mX (mE mtab d) KX7_cutSign 45 [some (.ref l0), some (.int l1), some (.int l2), some (.int s0)] [] h else (if l2 = 60 then mX (mE mtab d) KX7_cutSign 31 [some (.ref l0), some (.int l1), some (.int l2), some (.int s0)] [] h else (if l2 = 62 then mX (mE mtab d) KX7_cutSign 31 [some (.ref l0), some (.int l1), some (.int l2), some (.int s0)] [] h else mX (mE mtab d) KX7_cutSign 45 [some (.ref l0), some (.int l1), some (.int l2), some (.int s0)] [] h))) := by
  refine mX_to 2 (k' := 24) (ls' := [some (.ref l0), some (.int l1), some (.int l2), some (.int s0)]) (st' := [.int s0]) (h' := h) rfl ?_
  refine mX_br (t := 45) (f := 25) (ls' := [some (.ref l0), some (.int l1), some (.int l2), some (.int s0)]) (st' := []) (h' := h) rfl ?_ ?_
  · rfl
  · refine mX_to 2 (k' := 27) (ls' := [some (.ref l0), some (.int l1), some (.int l2), some (.int s0)]) (st' := [.int 60, .int l2]) (h' := h) rfl ?_
    refine mX_br (t := 31) (f := 28) (ls' := [some (.ref l0), some (.int l1), some (.int l2), some (.int s0)]) (st' := []) (h' := h) rfl ?_ ?_
    · rfl
    · refine mX_to 2 (k' := 30) (ls' := [some (.ref l0), some (.int l1), some (.int l2), some (.int s0)]) (st' := [.int 62, .int l2]) (h' := h) rfl ?_
      refine mX_br (t := 31) (f := 45) (ls' := [some (.ref l0), some (.int l1), some (.int l2), some (.int s0)]) (st' := []) (h' := h) rfl ?_ ?_
      · rfl
      · rfl
theorem D_X7_cutSign_21 (d : Nat) (h : MH) (l0 : Nat) (l1 : Int32) (l2 : Int32) : mX (mE mtab d) KX7_cutSign 21 [some (.ref l0), some (.int l1), some (.int l2), none] [] h = mX (mE mtab d) KX7_cutSign 22 [some (.ref l0), some (.int l1), some (.int l2), none] [.int 0] h := by
  refine mX_to 1 (k' := 22) (ls' := [some (.ref l0), some (.int l1), some (.int l2), none]) (st' := [.int 0]) (h' := h) rfl ?_
  rfl
theorem D_X7_cutSign_45 (d : Nat) (h : MH) (l0 : Nat) (l1 : Int32) (l2 : Int32) (l3 : Int32) : mX (mE mtab d) KX7_cutSign 45 [some (.ref l0), some (.int l1), some (.int l2), some (.int l3)] [] h = cI (mE mtab d 64 [.int l2] h) (fun x3 h2 => (if x3 = 0 then mX (mE mtab d) KX7_cutSign 52 [some (.ref l0), some (.int l1), some (.int l2), some (.int l3)] [.int 260, .ref l0] h2 else mX (mE mtab d) KX7_cutSign 52 [some (.ref l0), some (.int l1), some (.int l2), some (.int l3)] [.int l2, .ref l0] h2)) := by
  refine mX_to 2 (k' := 47) (ls' := [some (.ref l0), some (.int l1), some (.int l2), some (.int l3)]) (st' := [.int l2, .ref l0]) (h' := h) rfl ?_
  refine mX_cI (o := mE mtab d 64 [.int l2] h) (k' := 48) (ls' := [some (.ref l0), some (.int l1), some (.int l2), some (.int l3)]) (st' := [.ref l0]) rfl ?_
  intro x3 h2
  refine mX_br (t := 51) (f := 49) (ls' := [some (.ref l0), some (.int l1), some (.int l2), some (.int l3)]) (st' := [.ref l0]) (h' := h2) rfl ?_ ?_
  · refine mX_to 1 (k' := 52) (ls' := [some (.ref l0), some (.int l1), some (.int l2), some (.int l3)]) (st' := [.int 260, .ref l0]) (h' := h2) rfl ?_
    rfl
  · refine mX_to 2 (k' := 52) (ls' := [some (.ref l0), some (.int l1), some (.int l2), some (.int l3)]) (st' := [.int l2, .ref l0]) (h' := h2) rfl ?_
    rfl
theorem D_X7_cutSign_31 (d : Nat) (h : MH) (l0 : Nat) (l1 : Int32) (l2 : Int32) (l3 : Int32) : mX (mE mtab d) KX7_cutSign 31 [some (.ref l0), some (.int l1), some (.int l2), some (.int l3)] [] h = (if l2 = 60 then mX (mE mtab d) KX7_cutSign 38 [some (.ref l0), some (.int l1), some (.int l2), some (.int l3)] [.int 256, .ref l0] h else mX (mE mtab d) KX7_cutSign 38 [some (.ref l0), some (.int l1), some (.int l2), some (.int l3)] [.int 257, .ref l0] h) := by
  refine mX_to 3 (k' := 34) (ls' := [some (.ref l0), some (.int l1), some (.int l2), some (.int l3)]) (st' := [.int 60, .int l2, .ref l0]) (h' := h) rfl ?_
  refine mX_br (t := 35) (f := 37) (ls' := [some (.ref l0), some (.int l1), some (.int l2), some (.int l3)]) (st' := [.ref l0]) (h' := h) rfl ?_ ?_
  · refine mX_to 2 (k' := 38) (ls' := [some (.ref l0), some (.int l1), some (.int l2), some (.int l3)]) (st' := [.int 256, .ref l0]) (h' := h) rfl ?_
    rfl
  · refine mX_to 1 (k' := 38) (ls' := [some (.ref l0), some (.int l1), some (.int l2), some (.int l3)]) (st' := [.int 257, .ref l0]) (h' := h) rfl ?_
    rfl
theorem D_X7_cutSign_52 (d : Nat) (h : MH) (l0 : Nat) (l1 : Int32) (l2 : Int32) (l3 : Int32) (s0 : Int32) (s1 : Nat) : mX (mE mtab d) KX7_cutSign 52 [some (.ref l0), some (.int l1), some (.int l2), some (.int l3)] [.int s0, .ref s1] h = ck (kd h s1 = 8) (cV (mE mtab d 33 [.ref s1, .int s0, .int l1, .int 0] h) (fun h4 => some (.int (l1 + 1), h4))) := by
  refine mX_to 2 (k' := 54) (ls' := [some (.ref l0), some (.int l1), some (.int l2), some (.int l3)]) (st' := [.int 0, .int l1, .int s0, .ref s1]) (h' := h) rfl ?_
  refine mX_ckc (m := mcl (mE mtab d 33 [.ref s1, .int s0, .int l1, .int 0] h) 0 55 [some (.ref l0), some (.int l1), some (.int l2), some (.int l3)] []) rfl ?_
  refine mk_cV ?_
  intro h4
  refine mX_to 3 (k' := 58) (ls' := [some (.ref l0), some (.int l1), some (.int l2), some (.int l3)]) (st' := [.int (l1 + 1)]) (h' := h4) rfl ?_
  exact mX_reti rfl
theorem D_X7_cutSign_38 (d : Nat) (h : MH) (l0 : Nat) (l1 : Int32) (l2 : Int32) (l3 : Int32) (s0 : Int32) (s1 : Nat) : mX (mE mtab d) KX7_cutSign 38 [some (.ref l0), some (.int l1), some (.int l2), some (.int l3)] [.int s0, .ref s1] h = ck (kd h s1 = 8) (cV (mE mtab d 33 [.ref s1, .int s0, .int l1, .int 0] h) (fun h5 => some (.int (l1 + 2), h5))) := by
  refine mX_to 2 (k' := 40) (ls' := [some (.ref l0), some (.int l1), some (.int l2), some (.int l3)]) (st' := [.int 0, .int l1, .int s0, .ref s1]) (h' := h) rfl ?_
  refine mX_ckc (m := mcl (mE mtab d 33 [.ref s1, .int s0, .int l1, .int 0] h) 0 41 [some (.ref l0), some (.int l1), some (.int l2), some (.int l3)] []) rfl ?_
  refine mk_cV ?_
  intro h5
  refine mX_to 3 (k' := 44) (ls' := [some (.ref l0), some (.int l1), some (.int l2), some (.int l3)]) (st' := [.int (l1 + 2)]) (h' := h5) rfl ?_
  exact mX_reti rfl
theorem D_X7_cutSign (d : Nat) (h : MH) (a0 : Nat) (a1 : Int32) : mE mtab (d + 1) 65 [.ref a0, .int a1] h = ck (kd h a0 = 8) (ck ((kd h (gR h a0 0) = 20 ∨ kd h (gR h a0 0) = 24) ∧ ib a1 (ln h (gR h a0 0))) (lt_ (gI h (gR h a0 0) (ix a1)) fun v1 => ck (kd h a0 = 8) ((if (a1 + 1) < (gI h a0 1) then ck (kd h a0 = 8) (ck ((kd h (gR h a0 0) = 20 ∨ kd h (gR h a0 0) = 24) ∧ ib (a1 + 1) (ln h (gR h a0 0))) ((if (gI h (gR h a0 0) (ix (a1 + 1))) = 61 then mX (mE mtab d) KX7_cutSign 22 [some (.ref a0), some (.int a1), some (.int v1), none] [.int 1] h else mX (mE mtab d) KX7_cutSign 21 [some (.ref a0), some (.int a1), some (.int v1), none] [] h))) else mX (mE mtab d) KX7_cutSign 21 [some (.ref a0), some (.int a1), some (.int v1), none] [] h)))) := by
  refine mE_eq (q := (yX7_cutSign, cX7_cutSign, 4, (some .int), KX7_cutSign)) (C := KX7_cutSign) (ls := [some (.ref a0), some (.int a1), none, none]) rfl rfl rfl rfl ?_
  refine mX_to 1 (k' := 1) (ls' := [some (.ref a0), some (.int a1), none, none]) (st' := [.ref a0]) (h' := h) rfl ?_
  refine mX_ck (k' := 2) (ls' := [some (.ref a0), some (.int a1), none, none]) (st' := [.ref (gR h a0 0)]) (h' := h) rfl ?_
  refine mX_to 1 (k' := 3) (ls' := [some (.ref a0), some (.int a1), none, none]) (st' := [.int a1, .ref (gR h a0 0)]) (h' := h) rfl ?_
  refine mX_ck (k' := 4) (ls' := [some (.ref a0), some (.int a1), none, none]) (st' := [.int (gI h (gR h a0 0) (ix a1))]) (h' := h) rfl ?_
  refine lt_gen (X := fun v1 : Int32 => mX (mE mtab d) KX7_cutSign 4 [some (.ref a0), some (.int a1), none, none] [.int v1] h) fun v1 => ?_
  refine mX_to 5 (k' := 9) (ls' := [some (.ref a0), some (.int a1), some (.int v1), none]) (st' := [.ref a0, .int (a1 + 1)]) (h' := h) rfl ?_
  refine mX_ck (k' := 10) (ls' := [some (.ref a0), some (.int a1), some (.int v1), none]) (st' := [.int (gI h a0 1), .int (a1 + 1)]) (h' := h) rfl ?_
  refine mX_br (t := 11) (f := 21) (ls' := [some (.ref a0), some (.int a1), some (.int v1), none]) (st' := []) (h' := h) rfl ?_ ?_
  · refine mX_to 1 (k' := 12) (ls' := [some (.ref a0), some (.int a1), some (.int v1), none]) (st' := [.ref a0]) (h' := h) rfl ?_
    refine mX_ck (k' := 13) (ls' := [some (.ref a0), some (.int a1), some (.int v1), none]) (st' := [.ref (gR h a0 0)]) (h' := h) rfl ?_
    refine mX_to 3 (k' := 16) (ls' := [some (.ref a0), some (.int a1), some (.int v1), none]) (st' := [.int (a1 + 1), .ref (gR h a0 0)]) (h' := h) rfl ?_
    refine mX_ck (k' := 17) (ls' := [some (.ref a0), some (.int a1), some (.int v1), none]) (st' := [.int (gI h (gR h a0 0) (ix (a1 + 1)))]) (h' := h) rfl ?_
    refine mX_to 1 (k' := 18) (ls' := [some (.ref a0), some (.int a1), some (.int v1), none]) (st' := [.int 61, .int (gI h (gR h a0 0) (ix (a1 + 1)))]) (h' := h) rfl ?_
    refine mX_br (t := 19) (f := 21) (ls' := [some (.ref a0), some (.int a1), some (.int v1), none]) (st' := []) (h' := h) rfl ?_ ?_
    · refine mX_to 2 (k' := 22) (ls' := [some (.ref a0), some (.int a1), some (.int v1), none]) (st' := [.int 1]) (h' := h) rfl ?_
      rfl
    · rfl
  · rfl
