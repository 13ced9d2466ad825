/-! ROWS OF THE SMALL MACHINE, 2: arithmetic, stack, branches (written by wip/gen/rows6.py) -/
section MV2
variable {p : Program} {l : Launch} {e : Env} {R : Room} {s : State} {m : MethodId} {args : Array Value} {below : List Frame} {meth : Method} {c : Code} {Q : Nat → Nat → State → Prop}
variable {cc : ByteArray} {pc : Nat} {G : MG} {own : String} {nL : Nat} {h0 h hF : MH} {ls : ML} {st : List Value}
theorem mv_iadd (X : mCx G p R s m args c own cc nL h0) {x y : Int32} (hd : decode cc pc = .ok (.iadd, 1))  (k : mV p l e R s m args below meth c Q G nL h0 hF (pc + 1) ls (.int (x + y) :: st) h) : mV p l e R s m args below meth c Q G nL h0 hF pc ls (.int y :: .int x :: st) h :=
  fun H locs cells slots lsA hR hL => lv_iadd X.1 X.2.1 hd (k H locs cells slots lsA hR hL)
theorem mv_isub (X : mCx G p R s m args c own cc nL h0) {x y : Int32} (hd : decode cc pc = .ok (.isub, 1))  (k : mV p l e R s m args below meth c Q G nL h0 hF (pc + 1) ls (.int (x - y) :: st) h) : mV p l e R s m args below meth c Q G nL h0 hF pc ls (.int y :: .int x :: st) h :=
  fun H locs cells slots lsA hR hL => lv_isub X.1 X.2.1 hd (k H locs cells slots lsA hR hL)
theorem mv_imul (X : mCx G p R s m args c own cc nL h0) {x y : Int32} (hd : decode cc pc = .ok (.imul, 1))  (k : mV p l e R s m args below meth c Q G nL h0 hF (pc + 1) ls (.int (x * y) :: st) h) : mV p l e R s m args below meth c Q G nL h0 hF pc ls (.int y :: .int x :: st) h :=
  fun H locs cells slots lsA hR hL => lv_imul X.1 X.2.1 hd (k H locs cells slots lsA hR hL)
theorem mv_iand (X : mCx G p R s m args c own cc nL h0) {x y : Int32} (hd : decode cc pc = .ok (.iand, 1))  (k : mV p l e R s m args below meth c Q G nL h0 hF (pc + 1) ls (.int (x &&& y) :: st) h) : mV p l e R s m args below meth c Q G nL h0 hF pc ls (.int y :: .int x :: st) h :=
  fun H locs cells slots lsA hR hL => lv_iand X.1 X.2.1 hd (k H locs cells slots lsA hR hL)
theorem mv_ior (X : mCx G p R s m args c own cc nL h0) {x y : Int32} (hd : decode cc pc = .ok (.ior, 1))  (k : mV p l e R s m args below meth c Q G nL h0 hF (pc + 1) ls (.int (x ||| y) :: st) h) : mV p l e R s m args below meth c Q G nL h0 hF pc ls (.int y :: .int x :: st) h :=
  fun H locs cells slots lsA hR hL => lv_ior X.1 X.2.1 hd (k H locs cells slots lsA hR hL)
theorem mv_ixor (X : mCx G p R s m args c own cc nL h0) {x y : Int32} (hd : decode cc pc = .ok (.ixor, 1))  (k : mV p l e R s m args below meth c Q G nL h0 hF (pc + 1) ls (.int (x ^^^ y) :: st) h) : mV p l e R s m args below meth c Q G nL h0 hF pc ls (.int y :: .int x :: st) h :=
  fun H locs cells slots lsA hR hL => lv_ixor X.1 X.2.1 hd (k H locs cells slots lsA hR hL)
theorem mv_ishl (X : mCx G p R s m args c own cc nL h0) {x y : Int32} (hd : decode cc pc = .ok (.ishl, 1))  (k : mV p l e R s m args below meth c Q G nL h0 hF (pc + 1) ls (.int (x <<< (y &&& 31)) :: st) h) : mV p l e R s m args below meth c Q G nL h0 hF pc ls (.int y :: .int x :: st) h :=
  fun H locs cells slots lsA hR hL => lv_ishl X.1 X.2.1 hd (k H locs cells slots lsA hR hL)
theorem mv_ishr (X : mCx G p R s m args c own cc nL h0) {x y : Int32} (hd : decode cc pc = .ok (.ishr, 1))  (k : mV p l e R s m args below meth c Q G nL h0 hF (pc + 1) ls (.int (x >>> (y &&& 31)) :: st) h) : mV p l e R s m args below meth c Q G nL h0 hF pc ls (.int y :: .int x :: st) h :=
  fun H locs cells slots lsA hR hL => lv_ishr X.1 X.2.1 hd (k H locs cells slots lsA hR hL)
theorem mv_idiv (X : mCx G p R s m args c own cc nL h0) {x y : Int32} (hd : decode cc pc = .ok (.idiv, 1)) (hy : ¬ y = 0) (k : mV p l e R s m args below meth c Q G nL h0 hF (pc + 1) ls (.int (x / y) :: st) h) : mV p l e R s m args below meth c Q G nL h0 hF pc ls (.int y :: .int x :: st) h :=
  fun H locs cells slots lsA hR hL => lv_idiv X.1 X.2.1 hd hy (k H locs cells slots lsA hR hL)
theorem mv_irem (X : mCx G p R s m args c own cc nL h0) {x y : Int32} (hd : decode cc pc = .ok (.irem, 1)) (hy : ¬ y = 0) (k : mV p l e R s m args below meth c Q G nL h0 hF (pc + 1) ls (.int (x - x / y * y) :: st) h) : mV p l e R s m args below meth c Q G nL h0 hF pc ls (.int y :: .int x :: st) h :=
  fun H locs cells slots lsA hR hL => lv_irem X.1 X.2.1 hd hy (k H locs cells slots lsA hR hL)
theorem mv_iushr (X : mCx G p R s m args c own cc nL h0) {x y : Int32} (hd : decode cc pc = .ok (.iushr, 1))  (k : mV p l e R s m args below meth c Q G nL h0 hF (pc + 1) ls (.int (x.toUInt32 >>> (y.toUInt32 &&& Int32.toUInt32 31)).toInt32 :: st) h) : mV p l e R s m args below meth c Q G nL h0 hF pc ls (.int y :: .int x :: st) h :=
  fun H locs cells slots lsA hR hL => lv_iushr X.1 X.2.1 hd rfl (k H locs cells slots lsA hR hL)
theorem mv_ineg (X : mCx G p R s m args c own cc nL h0) {x : Int32} (hd : decode cc pc = .ok (.ineg, 1))  (k : mV p l e R s m args below meth c Q G nL h0 hF (pc + 1) ls (.int (-x) :: st) h) : mV p l e R s m args below meth c Q G nL h0 hF pc ls (.int x :: st) h :=
  fun H locs cells slots lsA hR hL => lv_ineg X.1 X.2.1 hd (k H locs cells slots lsA hR hL)
theorem mv_ladd (X : mCx G p R s m args c own cc nL h0) {x y : Int64} (hd : decode cc pc = .ok (.ladd, 1))  (k : mV p l e R s m args below meth c Q G nL h0 hF (pc + 1) ls (.long (x + y) :: st) h) : mV p l e R s m args below meth c Q G nL h0 hF pc ls (.long y :: .long x :: st) h :=
  fun H locs cells slots lsA hR hL => lv_ladd X.1 X.2.1 hd (k H locs cells slots lsA hR hL)
theorem mv_lsub (X : mCx G p R s m args c own cc nL h0) {x y : Int64} (hd : decode cc pc = .ok (.lsub, 1))  (k : mV p l e R s m args below meth c Q G nL h0 hF (pc + 1) ls (.long (x - y) :: st) h) : mV p l e R s m args below meth c Q G nL h0 hF pc ls (.long y :: .long x :: st) h :=
  fun H locs cells slots lsA hR hL => lv_lsub X.1 X.2.1 hd (k H locs cells slots lsA hR hL)
theorem mv_lmul (X : mCx G p R s m args c own cc nL h0) {x y : Int64} (hd : decode cc pc = .ok (.lmul, 1))  (k : mV p l e R s m args below meth c Q G nL h0 hF (pc + 1) ls (.long (x * y) :: st) h) : mV p l e R s m args below meth c Q G nL h0 hF pc ls (.long y :: .long x :: st) h :=
  fun H locs cells slots lsA hR hL => lv_lmul X.1 X.2.1 hd (k H locs cells slots lsA hR hL)
theorem mv_lor (X : mCx G p R s m args c own cc nL h0) {x y : Int64} (hd : decode cc pc = .ok (.lor, 1))  (k : mV p l e R s m args below meth c Q G nL h0 hF (pc + 1) ls (.long (x ||| y) :: st) h) : mV p l e R s m args below meth c Q G nL h0 hF pc ls (.long y :: .long x :: st) h :=
  fun H locs cells slots lsA hR hL => lv_lor X.1 X.2.1 hd (k H locs cells slots lsA hR hL)
theorem mv_ldiv (X : mCx G p R s m args c own cc nL h0) {x y : Int64} (hd : decode cc pc = .ok (.ldiv, 1)) (hy : ¬ y = 0) (k : mV p l e R s m args below meth c Q G nL h0 hF (pc + 1) ls (.long (x / y) :: st) h) : mV p l e R s m args below meth c Q G nL h0 hF pc ls (.long y :: .long x :: st) h :=
  fun H locs cells slots lsA hR hL => lv_ldiv X.1 X.2.1 hd hy (k H locs cells slots lsA hR hL)
theorem mv_lrem (X : mCx G p R s m args c own cc nL h0) {x y : Int64} (hd : decode cc pc = .ok (.lrem, 1)) (hy : ¬ y = 0) (k : mV p l e R s m args below meth c Q G nL h0 hF (pc + 1) ls (.long (x - x / y * y) :: st) h) : mV p l e R s m args below meth c Q G nL h0 hF pc ls (.long y :: .long x :: st) h :=
  fun H locs cells slots lsA hR hL => lv_lrem X.1 X.2.1 hd hy (k H locs cells slots lsA hR hL)
theorem mv_lneg (X : mCx G p R s m args c own cc nL h0) {x : Int64} (hd : decode cc pc = .ok (.lneg, 1))  (k : mV p l e R s m args below meth c Q G nL h0 hF (pc + 1) ls (.long (-x) :: st) h) : mV p l e R s m args below meth c Q G nL h0 hF pc ls (.long x :: st) h :=
  fun H locs cells slots lsA hR hL => lv_lneg X.1 X.2.1 hd (k H locs cells slots lsA hR hL)
theorem mv_lshl (X : mCx G p R s m args c own cc nL h0) {x : Int64} {y : Int32} (hd : decode cc pc = .ok (.lshl, 1))  (k : mV p l e R s m args below meth c Q G nL h0 hF (pc + 1) ls (.long (x <<< (y.toInt64 &&& 63)) :: st) h) : mV p l e R s m args below meth c Q G nL h0 hF pc ls (.int y :: .long x :: st) h :=
  fun H locs cells slots lsA hR hL => lv_lshl X.1 X.2.1 hd rfl (k H locs cells slots lsA hR hL)
theorem mv_lshr (X : mCx G p R s m args c own cc nL h0) {x : Int64} {y : Int32} (hd : decode cc pc = .ok (.lshr, 1))  (k : mV p l e R s m args below meth c Q G nL h0 hF (pc + 1) ls (.long (x >>> (y.toInt64 &&& 63)) :: st) h) : mV p l e R s m args below meth c Q G nL h0 hF pc ls (.int y :: .long x :: st) h :=
  fun H locs cells slots lsA hR hL => lv_lshr X.1 X.2.1 hd rfl (k H locs cells slots lsA hR hL)
theorem mv_lcmp (X : mCx G p R s m args c own cc nL h0) {x y : Int64} (hd : decode cc pc = .ok (.lcmp, 1))  (k : mV p l e R s m args below meth c Q G nL h0 hF (pc + 1) ls (.int (lg_cmp x y) :: st) h) : mV p l e R s m args below meth c Q G nL h0 hF pc ls (.long y :: .long x :: st) h :=
  fun H locs cells slots lsA hR hL => W.lcmp X.1 X.2.1 hd (k H locs cells slots lsA hR hL)
theorem mv_i2l (X : mCx G p R s m args c own cc nL h0) {x : Int32} (hd : decode cc pc = .ok (.i2l, 1))  (k : mV p l e R s m args below meth c Q G nL h0 hF (pc + 1) ls (.long x.toInt64 :: st) h) : mV p l e R s m args below meth c Q G nL h0 hF pc ls (.int x :: st) h :=
  fun H locs cells slots lsA hR hL => lv_i2l X.1 X.2.1 hd rfl (k H locs cells slots lsA hR hL)
theorem mv_l2i (X : mCx G p R s m args c own cc nL h0) {x : Int64} (hd : decode cc pc = .ok (.l2i, 1))  (k : mV p l e R s m args below meth c Q G nL h0 hF (pc + 1) ls (.int x.toInt32 :: st) h) : mV p l e R s m args below meth c Q G nL h0 hF pc ls (.long x :: st) h :=
  fun H locs cells slots lsA hR hL => lv_l2i X.1 X.2.1 hd rfl (k H locs cells slots lsA hR hL)
theorem mv_i2c (X : mCx G p R s m args c own cc nL h0) {x : Int32} (hd : decode cc pc = .ok (.i2c, 1))  (k : mV p l e R s m args below meth c Q G nL h0 hF (pc + 1) ls (.int (x.toUInt32 % 65536).toInt32 :: st) h) : mV p l e R s m args below meth c Q G nL h0 hF pc ls (.int x :: st) h :=
  fun H locs cells slots lsA hR hL => lv_i2c X.1 X.2.1 hd rfl (k H locs cells slots lsA hR hL)
theorem mv_dup (X : mCx G p R s m args c own cc nL h0) {v : Value} (hd : decode cc pc = .ok (.dup, 1)) (hv : v.category = 1) (k : mV p l e R s m args below meth c Q G nL h0 hF (pc + 1) ls (v :: v :: st) h) : mV p l e R s m args below meth c Q G nL h0 hF pc ls (v :: st) h :=
  fun H locs cells slots lsA hR hL => lv_dup X.1 X.2.1 hd (by rw [mtr_cat]; exact hv) (k H locs cells slots lsA hR hL)
theorem mv_dup2 (X : mCx G p R s m args c own cc nL h0) {v w : Value} (hd : decode cc pc = .ok (.dup2, 1)) (hv : v.category = 1) (hw : w.category = 1) (k : mV p l e R s m args below meth c Q G nL h0 hF (pc + 1) ls (v :: w :: v :: w :: st) h) : mV p l e R s m args below meth c Q G nL h0 hF pc ls (v :: w :: st) h :=
  fun H locs cells slots lsA hR hL => lv_dup2_11 X.1 X.2.1 hd (by rw [mtr_cat]; exact hv) (by rw [mtr_cat]; exact hw) (k H locs cells slots lsA hR hL)
theorem mv_dup_x1 (X : mCx G p R s m args c own cc nL h0) {v w : Value} (hd : decode cc pc = .ok (.dup_x1, 1)) (hv : v.category = 1) (hw : w.category = 1) (k : mV p l e R s m args below meth c Q G nL h0 hF (pc + 1) ls (v :: w :: v :: st) h) : mV p l e R s m args below meth c Q G nL h0 hF pc ls (v :: w :: st) h :=
  fun H locs cells slots lsA hR hL => lv_dup_x1 X.1 X.2.1 hd (by rw [mtr_cat]; exact hv) (by rw [mtr_cat]; exact hw) (k H locs cells slots lsA hR hL)
theorem mv_dup_x2 (X : mCx G p R s m args c own cc nL h0) {v w z : Value} (hd : decode cc pc = .ok (.dup_x2, 1)) (hv : v.category = 1) (hw : w.category = 1) (hz : z.category = 1) (k : mV p l e R s m args below meth c Q G nL h0 hF (pc + 1) ls (v :: w :: z :: v :: st) h) : mV p l e R s m args below meth c Q G nL h0 hF pc ls (v :: w :: z :: st) h :=
  fun H locs cells slots lsA hR hL => lv_dup_x2 X.1 X.2.1 hd (by rw [mtr_cat]; exact hv) (by rw [mtr_cat]; exact hw) (by rw [mtr_cat]; exact hz) (k H locs cells slots lsA hR hL)
theorem mv_pop (X : mCx G p R s m args c own cc nL h0) {v : Value} (hd : decode cc pc = .ok (.pop, 1)) (hv : v.category = 1) (k : mV p l e R s m args below meth c Q G nL h0 hF (pc + 1) ls (st) h) : mV p l e R s m args below meth c Q G nL h0 hF pc ls (v :: st) h :=
  fun H locs cells slots lsA hR hL => lv_pop X.1 X.2.1 hd (by rw [mtr_cat]; exact hv) (k H locs cells slots lsA hR hL)
theorem mv_goto (X : mCx G p R s m args c own cc nL h0) {o : Int} {t : Nat} (hd : decode cc pc = .ok (.goto o, 3)) (ht : (pc : Int) + o = (t : Int)) (k : mV p l e R s m args below meth c Q G nL h0 hF t ls st h) : mV p l e R s m args below meth c Q G nL h0 hF pc ls st h :=
  fun H locs cells slots lsA hR hL => lv_goto X.1 X.2.1 hd ht (k H locs cells slots lsA hR hL)
theorem mv_if_eq (X : mCx G p R s m args c own cc nL h0) {x : Int32} {o : Int} {t : Nat} (hd : decode cc pc = .ok (.ifCond .eq o, 3)) (ht : (pc : Int) + o = (t : Int)) (kt : (x = 0) → mV p l e R s m args below meth c Q G nL h0 hF t ls st h) (kf : ¬ (x = 0) → mV p l e R s m args below meth c Q G nL h0 hF (pc + 3) ls st h) : mV p l e R s m args below meth c Q G nL h0 hF pc ls (.int x :: st) h :=
  fun H locs cells slots lsA hR hL => lv_if_eq X.1 X.2.1 hd ht (fun q => kt q H locs cells slots lsA hR hL) (fun q => kf q H locs cells slots lsA hR hL)
theorem mv_icmp_eq (X : mCx G p R s m args c own cc nL h0) {x y : Int32} {o : Int} {t : Nat} (hd : decode cc pc = .ok (.if_icmp .eq o, 3)) (ht : (pc : Int) + o = (t : Int)) (kt : (x = y) → mV p l e R s m args below meth c Q G nL h0 hF t ls st h) (kf : ¬ (x = y) → mV p l e R s m args below meth c Q G nL h0 hF (pc + 3) ls st h) : mV p l e R s m args below meth c Q G nL h0 hF pc ls (.int y :: .int x :: st) h :=
  fun H locs cells slots lsA hR hL => lv_icmp_eq X.1 X.2.1 hd ht (fun q => kt q H locs cells slots lsA hR hL) (fun q => kf q H locs cells slots lsA hR hL)
theorem mv_if_ne (X : mCx G p R s m args c own cc nL h0) {x : Int32} {o : Int} {t : Nat} (hd : decode cc pc = .ok (.ifCond .ne o, 3)) (ht : (pc : Int) + o = (t : Int)) (kt : (¬ x = 0) → mV p l e R s m args below meth c Q G nL h0 hF t ls st h) (kf : (x = 0) → mV p l e R s m args below meth c Q G nL h0 hF (pc + 3) ls st h) : mV p l e R s m args below meth c Q G nL h0 hF pc ls (.int x :: st) h :=
  fun H locs cells slots lsA hR hL => lv_if_ne X.1 X.2.1 hd ht (fun q => kt q H locs cells slots lsA hR hL) (fun q => kf q H locs cells slots lsA hR hL)
theorem mv_icmp_ne (X : mCx G p R s m args c own cc nL h0) {x y : Int32} {o : Int} {t : Nat} (hd : decode cc pc = .ok (.if_icmp .ne o, 3)) (ht : (pc : Int) + o = (t : Int)) (kt : (¬ x = y) → mV p l e R s m args below meth c Q G nL h0 hF t ls st h) (kf : (x = y) → mV p l e R s m args below meth c Q G nL h0 hF (pc + 3) ls st h) : mV p l e R s m args below meth c Q G nL h0 hF pc ls (.int y :: .int x :: st) h :=
  fun H locs cells slots lsA hR hL => lv_icmp_ne X.1 X.2.1 hd ht (fun q => kt q H locs cells slots lsA hR hL) (fun q => kf q H locs cells slots lsA hR hL)
theorem mv_if_lt (X : mCx G p R s m args c own cc nL h0) {x : Int32} {o : Int} {t : Nat} (hd : decode cc pc = .ok (.ifCond .lt o, 3)) (ht : (pc : Int) + o = (t : Int)) (kt : (x < 0) → mV p l e R s m args below meth c Q G nL h0 hF t ls st h) (kf : ¬ (x < 0) → mV p l e R s m args below meth c Q G nL h0 hF (pc + 3) ls st h) : mV p l e R s m args below meth c Q G nL h0 hF pc ls (.int x :: st) h :=
  fun H locs cells slots lsA hR hL => lv_if_lt X.1 X.2.1 hd ht (fun q => kt q H locs cells slots lsA hR hL) (fun q => kf q H locs cells slots lsA hR hL)
theorem mv_icmp_lt (X : mCx G p R s m args c own cc nL h0) {x y : Int32} {o : Int} {t : Nat} (hd : decode cc pc = .ok (.if_icmp .lt o, 3)) (ht : (pc : Int) + o = (t : Int)) (kt : (x < y) → mV p l e R s m args below meth c Q G nL h0 hF t ls st h) (kf : ¬ (x < y) → mV p l e R s m args below meth c Q G nL h0 hF (pc + 3) ls st h) : mV p l e R s m args below meth c Q G nL h0 hF pc ls (.int y :: .int x :: st) h :=
  fun H locs cells slots lsA hR hL => lv_icmp_lt X.1 X.2.1 hd ht (fun q => kt q H locs cells slots lsA hR hL) (fun q => kf q H locs cells slots lsA hR hL)
theorem mv_if_ge (X : mCx G p R s m args c own cc nL h0) {x : Int32} {o : Int} {t : Nat} (hd : decode cc pc = .ok (.ifCond .ge o, 3)) (ht : (pc : Int) + o = (t : Int)) (kt : (0 ≤ x) → mV p l e R s m args below meth c Q G nL h0 hF t ls st h) (kf : ¬ (0 ≤ x) → mV p l e R s m args below meth c Q G nL h0 hF (pc + 3) ls st h) : mV p l e R s m args below meth c Q G nL h0 hF pc ls (.int x :: st) h :=
  fun H locs cells slots lsA hR hL => lv_if_ge X.1 X.2.1 hd ht (fun q => kt q H locs cells slots lsA hR hL) (fun q => kf q H locs cells slots lsA hR hL)
theorem mv_icmp_ge (X : mCx G p R s m args c own cc nL h0) {x y : Int32} {o : Int} {t : Nat} (hd : decode cc pc = .ok (.if_icmp .ge o, 3)) (ht : (pc : Int) + o = (t : Int)) (kt : (y ≤ x) → mV p l e R s m args below meth c Q G nL h0 hF t ls st h) (kf : ¬ (y ≤ x) → mV p l e R s m args below meth c Q G nL h0 hF (pc + 3) ls st h) : mV p l e R s m args below meth c Q G nL h0 hF pc ls (.int y :: .int x :: st) h :=
  fun H locs cells slots lsA hR hL => lv_icmp_ge X.1 X.2.1 hd ht (fun q => kt q H locs cells slots lsA hR hL) (fun q => kf q H locs cells slots lsA hR hL)
theorem mv_if_gt (X : mCx G p R s m args c own cc nL h0) {x : Int32} {o : Int} {t : Nat} (hd : decode cc pc = .ok (.ifCond .gt o, 3)) (ht : (pc : Int) + o = (t : Int)) (kt : (0 < x) → mV p l e R s m args below meth c Q G nL h0 hF t ls st h) (kf : ¬ (0 < x) → mV p l e R s m args below meth c Q G nL h0 hF (pc + 3) ls st h) : mV p l e R s m args below meth c Q G nL h0 hF pc ls (.int x :: st) h :=
  fun H locs cells slots lsA hR hL => lv_if_gt X.1 X.2.1 hd ht (fun q => kt q H locs cells slots lsA hR hL) (fun q => kf q H locs cells slots lsA hR hL)
theorem mv_icmp_gt (X : mCx G p R s m args c own cc nL h0) {x y : Int32} {o : Int} {t : Nat} (hd : decode cc pc = .ok (.if_icmp .gt o, 3)) (ht : (pc : Int) + o = (t : Int)) (kt : (y < x) → mV p l e R s m args below meth c Q G nL h0 hF t ls st h) (kf : ¬ (y < x) → mV p l e R s m args below meth c Q G nL h0 hF (pc + 3) ls st h) : mV p l e R s m args below meth c Q G nL h0 hF pc ls (.int y :: .int x :: st) h :=
  fun H locs cells slots lsA hR hL => lv_icmp_gt X.1 X.2.1 hd ht (fun q => kt q H locs cells slots lsA hR hL) (fun q => kf q H locs cells slots lsA hR hL)
theorem mv_if_le (X : mCx G p R s m args c own cc nL h0) {x : Int32} {o : Int} {t : Nat} (hd : decode cc pc = .ok (.ifCond .le o, 3)) (ht : (pc : Int) + o = (t : Int)) (kt : (x ≤ 0) → mV p l e R s m args below meth c Q G nL h0 hF t ls st h) (kf : ¬ (x ≤ 0) → mV p l e R s m args below meth c Q G nL h0 hF (pc + 3) ls st h) : mV p l e R s m args below meth c Q G nL h0 hF pc ls (.int x :: st) h :=
  fun H locs cells slots lsA hR hL => lv_if_le X.1 X.2.1 hd ht (fun q => kt q H locs cells slots lsA hR hL) (fun q => kf q H locs cells slots lsA hR hL)
theorem mv_icmp_le (X : mCx G p R s m args c own cc nL h0) {x y : Int32} {o : Int} {t : Nat} (hd : decode cc pc = .ok (.if_icmp .le o, 3)) (ht : (pc : Int) + o = (t : Int)) (kt : (x ≤ y) → mV p l e R s m args below meth c Q G nL h0 hF t ls st h) (kf : ¬ (x ≤ y) → mV p l e R s m args below meth c Q G nL h0 hF (pc + 3) ls st h) : mV p l e R s m args below meth c Q G nL h0 hF pc ls (.int y :: .int x :: st) h :=
  fun H locs cells slots lsA hR hL => lv_icmp_le X.1 X.2.1 hd ht (fun q => kt q H locs cells slots lsA hR hL) (fun q => kf q H locs cells slots lsA hR hL)
theorem mv_ifnull (X : mCx G p R s m args c own cc nL h0) {v : Nat} {o : Int} {t : Nat} (hd : decode cc pc = .ok (.ifnull o, 3)) (ht : (pc : Int) + o = (t : Int)) (kt : v = 0 → mV p l e R s m args below meth c Q G nL h0 hF t ls st h) (kf : ¬ v = 0 → mV p l e R s m args below meth c Q G nL h0 hF (pc + 3) ls st h) : mV p l e R s m args below meth c Q G nL h0 hF pc ls (.ref v :: st) h := by
  intro H locs cells slots lsA hR hL
  rw [List.map_cons]
  by_cases hv : v = 0
  · subst hv; exact lv_ifnullN X.1 X.2.1 hd ht (kt rfl H locs cells slots lsA hR hL)
  · rw [mtr_pos hv]; exact lv_ifnull X.1 X.2.1 hd (kf hv H locs cells slots lsA hR hL)
theorem mv_ifnonnull (X : mCx G p R s m args c own cc nL h0) {v : Nat} {o : Int} {t : Nat} (hd : decode cc pc = .ok (.ifnonnull o, 3)) (ht : (pc : Int) + o = (t : Int)) (kt : ¬ v = 0 → mV p l e R s m args below meth c Q G nL h0 hF t ls st h) (kf : v = 0 → mV p l e R s m args below meth c Q G nL h0 hF (pc + 3) ls st h) : mV p l e R s m args below meth c Q G nL h0 hF pc ls (.ref v :: st) h := by
  intro H locs cells slots lsA hR hL
  rw [List.map_cons]
  by_cases hv : v = 0
  · subst hv; exact lv_ifnonnullN X.1 X.2.1 hd (kf rfl H locs cells slots lsA hR hL)
  · rw [mtr_pos hv]; exact lv_ifnonnull X.1 X.2.1 hd ht (kt hv H locs cells slots lsA hR hL)
end MV2
