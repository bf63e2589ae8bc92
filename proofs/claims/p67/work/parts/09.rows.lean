/-! instruction rows: stack, locals, branches (written by wip/tools/rows.py) -/
theorem g_iadd {T : s_T} {Φ : s_P} {pc : Nat} {lv : s_V} {st : List Value} {h : s_H} {n kc ks : Nat} {x y : Int32} (hd : decode T.2.1 pc = .ok (.iadd, 1)) 
    (k : s_G T Φ (pc + 1) lv (.int (x + y) :: st) h n kc ks) : s_G T Φ pc lv (.int y :: .int x :: st) h n kc ks := by
  intro p l e R s m args below meth c X ad0 n0 A mc ms Qm C ad H locs cells slots ls S
  exact lv_iadd C.1 C.2.1 hd (k p l e R s m args below meth c X ad0 n0 A mc ms Qm C ad H locs cells slots ls S)

theorem g_isub {T : s_T} {Φ : s_P} {pc : Nat} {lv : s_V} {st : List Value} {h : s_H} {n kc ks : Nat} {x y : Int32} (hd : decode T.2.1 pc = .ok (.isub, 1)) 
    (k : s_G T Φ (pc + 1) lv (.int (x - y) :: st) h n kc ks) : s_G T Φ pc lv (.int y :: .int x :: st) h n kc ks := by
  intro p l e R s m args below meth c X ad0 n0 A mc ms Qm C ad H locs cells slots ls S
  exact lv_isub C.1 C.2.1 hd (k p l e R s m args below meth c X ad0 n0 A mc ms Qm C ad H locs cells slots ls S)

theorem g_imul {T : s_T} {Φ : s_P} {pc : Nat} {lv : s_V} {st : List Value} {h : s_H} {n kc ks : Nat} {x y : Int32} (hd : decode T.2.1 pc = .ok (.imul, 1)) 
    (k : s_G T Φ (pc + 1) lv (.int (x * y) :: st) h n kc ks) : s_G T Φ pc lv (.int y :: .int x :: st) h n kc ks := by
  intro p l e R s m args below meth c X ad0 n0 A mc ms Qm C ad H locs cells slots ls S
  exact lv_imul C.1 C.2.1 hd (k p l e R s m args below meth c X ad0 n0 A mc ms Qm C ad H locs cells slots ls S)

theorem g_iand {T : s_T} {Φ : s_P} {pc : Nat} {lv : s_V} {st : List Value} {h : s_H} {n kc ks : Nat} {x y : Int32} (hd : decode T.2.1 pc = .ok (.iand, 1)) 
    (k : s_G T Φ (pc + 1) lv (.int (x &&& y) :: st) h n kc ks) : s_G T Φ pc lv (.int y :: .int x :: st) h n kc ks := by
  intro p l e R s m args below meth c X ad0 n0 A mc ms Qm C ad H locs cells slots ls S
  exact lv_iand C.1 C.2.1 hd (k p l e R s m args below meth c X ad0 n0 A mc ms Qm C ad H locs cells slots ls S)

theorem g_ior {T : s_T} {Φ : s_P} {pc : Nat} {lv : s_V} {st : List Value} {h : s_H} {n kc ks : Nat} {x y : Int32} (hd : decode T.2.1 pc = .ok (.ior, 1)) 
    (k : s_G T Φ (pc + 1) lv (.int (x ||| y) :: st) h n kc ks) : s_G T Φ pc lv (.int y :: .int x :: st) h n kc ks := by
  intro p l e R s m args below meth c X ad0 n0 A mc ms Qm C ad H locs cells slots ls S
  exact lv_ior C.1 C.2.1 hd (k p l e R s m args below meth c X ad0 n0 A mc ms Qm C ad H locs cells slots ls S)

theorem g_ixor {T : s_T} {Φ : s_P} {pc : Nat} {lv : s_V} {st : List Value} {h : s_H} {n kc ks : Nat} {x y : Int32} (hd : decode T.2.1 pc = .ok (.ixor, 1)) 
    (k : s_G T Φ (pc + 1) lv (.int (x ^^^ y) :: st) h n kc ks) : s_G T Φ pc lv (.int y :: .int x :: st) h n kc ks := by
  intro p l e R s m args below meth c X ad0 n0 A mc ms Qm C ad H locs cells slots ls S
  exact lv_ixor C.1 C.2.1 hd (k p l e R s m args below meth c X ad0 n0 A mc ms Qm C ad H locs cells slots ls S)

theorem g_ishl {T : s_T} {Φ : s_P} {pc : Nat} {lv : s_V} {st : List Value} {h : s_H} {n kc ks : Nat} {x y : Int32} (hd : decode T.2.1 pc = .ok (.ishl, 1)) 
    (k : s_G T Φ (pc + 1) lv (.int (x <<< (y &&& 31)) :: st) h n kc ks) : s_G T Φ pc lv (.int y :: .int x :: st) h n kc ks := by
  intro p l e R s m args below meth c X ad0 n0 A mc ms Qm C ad H locs cells slots ls S
  exact lv_ishl C.1 C.2.1 hd (k p l e R s m args below meth c X ad0 n0 A mc ms Qm C ad H locs cells slots ls S)

theorem g_ishr {T : s_T} {Φ : s_P} {pc : Nat} {lv : s_V} {st : List Value} {h : s_H} {n kc ks : Nat} {x y : Int32} (hd : decode T.2.1 pc = .ok (.ishr, 1)) 
    (k : s_G T Φ (pc + 1) lv (.int (x >>> (y &&& 31)) :: st) h n kc ks) : s_G T Φ pc lv (.int y :: .int x :: st) h n kc ks := by
  intro p l e R s m args below meth c X ad0 n0 A mc ms Qm C ad H locs cells slots ls S
  exact lv_ishr C.1 C.2.1 hd (k p l e R s m args below meth c X ad0 n0 A mc ms Qm C ad H locs cells slots ls S)

theorem g_iushr {T : s_T} {Φ : s_P} {pc : Nat} {lv : s_V} {st : List Value} {h : s_H} {n kc ks : Nat} {x y : Int32} (hd : decode T.2.1 pc = .ok (.iushr, 1)) 
    (k : s_G T Φ (pc + 1) lv (.int ((x.toUInt32 >>> (y.toUInt32 &&& Int32.toUInt32 31)).toInt32) :: st) h n kc ks) : s_G T Φ pc lv (.int y :: .int x :: st) h n kc ks := by
  intro p l e R s m args below meth c X ad0 n0 A mc ms Qm C ad H locs cells slots ls S
  exact lv_iushr C.1 C.2.1 hd rfl (k p l e R s m args below meth c X ad0 n0 A mc ms Qm C ad H locs cells slots ls S)

theorem g_idiv {T : s_T} {Φ : s_P} {pc : Nat} {lv : s_V} {st : List Value} {h : s_H} {n kc ks : Nat} {x y : Int32} (hd : decode T.2.1 pc = .ok (.idiv, 1)) (h0 : ¬ y = 0)
    (k : s_G T Φ (pc + 1) lv (.int (x / y) :: st) h n kc ks) : s_G T Φ pc lv (.int y :: .int x :: st) h n kc ks := by
  intro p l e R s m args below meth c X ad0 n0 A mc ms Qm C ad H locs cells slots ls S
  exact lv_idiv C.1 C.2.1 hd h0 (k p l e R s m args below meth c X ad0 n0 A mc ms Qm C ad H locs cells slots ls S)

theorem g_irem {T : s_T} {Φ : s_P} {pc : Nat} {lv : s_V} {st : List Value} {h : s_H} {n kc ks : Nat} {x y : Int32} (hd : decode T.2.1 pc = .ok (.irem, 1)) (h0 : ¬ y = 0)
    (k : s_G T Φ (pc + 1) lv (.int (x - x / y * y) :: st) h n kc ks) : s_G T Φ pc lv (.int y :: .int x :: st) h n kc ks := by
  intro p l e R s m args below meth c X ad0 n0 A mc ms Qm C ad H locs cells slots ls S
  exact lv_irem C.1 C.2.1 hd h0 (k p l e R s m args below meth c X ad0 n0 A mc ms Qm C ad H locs cells slots ls S)

theorem g_ineg {T : s_T} {Φ : s_P} {pc : Nat} {lv : s_V} {st : List Value} {h : s_H} {n kc ks : Nat} {x : Int32} (hd : decode T.2.1 pc = .ok (.ineg, 1)) 
    (k : s_G T Φ (pc + 1) lv (.int (-x) :: st) h n kc ks) : s_G T Φ pc lv (.int x :: st) h n kc ks := by
  intro p l e R s m args below meth c X ad0 n0 A mc ms Qm C ad H locs cells slots ls S
  exact lv_ineg C.1 C.2.1 hd (k p l e R s m args below meth c X ad0 n0 A mc ms Qm C ad H locs cells slots ls S)

theorem g_ladd {T : s_T} {Φ : s_P} {pc : Nat} {lv : s_V} {st : List Value} {h : s_H} {n kc ks : Nat} {x y : Int64} (hd : decode T.2.1 pc = .ok (.ladd, 1)) 
    (k : s_G T Φ (pc + 1) lv (.long (x + y) :: st) h n kc ks) : s_G T Φ pc lv (.long y :: .long x :: st) h n kc ks := by
  intro p l e R s m args below meth c X ad0 n0 A mc ms Qm C ad H locs cells slots ls S
  exact lv_ladd C.1 C.2.1 hd (k p l e R s m args below meth c X ad0 n0 A mc ms Qm C ad H locs cells slots ls S)

theorem g_lsub {T : s_T} {Φ : s_P} {pc : Nat} {lv : s_V} {st : List Value} {h : s_H} {n kc ks : Nat} {x y : Int64} (hd : decode T.2.1 pc = .ok (.lsub, 1)) 
    (k : s_G T Φ (pc + 1) lv (.long (x - y) :: st) h n kc ks) : s_G T Φ pc lv (.long y :: .long x :: st) h n kc ks := by
  intro p l e R s m args below meth c X ad0 n0 A mc ms Qm C ad H locs cells slots ls S
  exact lv_lsub C.1 C.2.1 hd (k p l e R s m args below meth c X ad0 n0 A mc ms Qm C ad H locs cells slots ls S)

theorem g_lmul {T : s_T} {Φ : s_P} {pc : Nat} {lv : s_V} {st : List Value} {h : s_H} {n kc ks : Nat} {x y : Int64} (hd : decode T.2.1 pc = .ok (.lmul, 1)) 
    (k : s_G T Φ (pc + 1) lv (.long (x * y) :: st) h n kc ks) : s_G T Φ pc lv (.long y :: .long x :: st) h n kc ks := by
  intro p l e R s m args below meth c X ad0 n0 A mc ms Qm C ad H locs cells slots ls S
  exact lv_lmul C.1 C.2.1 hd (k p l e R s m args below meth c X ad0 n0 A mc ms Qm C ad H locs cells slots ls S)

theorem g_land {T : s_T} {Φ : s_P} {pc : Nat} {lv : s_V} {st : List Value} {h : s_H} {n kc ks : Nat} {x y : Int64} (hd : decode T.2.1 pc = .ok (.land, 1)) 
    (k : s_G T Φ (pc + 1) lv (.long (x &&& y) :: st) h n kc ks) : s_G T Φ pc lv (.long y :: .long x :: st) h n kc ks := by
  intro p l e R s m args below meth c X ad0 n0 A mc ms Qm C ad H locs cells slots ls S
  exact lv_land C.1 C.2.1 hd (k p l e R s m args below meth c X ad0 n0 A mc ms Qm C ad H locs cells slots ls S)

theorem g_lneg {T : s_T} {Φ : s_P} {pc : Nat} {lv : s_V} {st : List Value} {h : s_H} {n kc ks : Nat} {x : Int64} (hd : decode T.2.1 pc = .ok (.lneg, 1)) 
    (k : s_G T Φ (pc + 1) lv (.long (-x) :: st) h n kc ks) : s_G T Φ pc lv (.long x :: st) h n kc ks := by
  intro p l e R s m args below meth c X ad0 n0 A mc ms Qm C ad H locs cells slots ls S
  exact lv_lneg C.1 C.2.1 hd (k p l e R s m args below meth c X ad0 n0 A mc ms Qm C ad H locs cells slots ls S)

theorem g_lshl {T : s_T} {Φ : s_P} {pc : Nat} {lv : s_V} {st : List Value} {h : s_H} {n kc ks : Nat} {x : Int64} {y : Int32} (hd : decode T.2.1 pc = .ok (.lshl, 1)) 
    (k : s_G T Φ (pc + 1) lv (.long (x <<< (y.toInt64 &&& 63)) :: st) h n kc ks) : s_G T Φ pc lv (.int y :: .long x :: st) h n kc ks := by
  intro p l e R s m args below meth c X ad0 n0 A mc ms Qm C ad H locs cells slots ls S
  exact lv_lshl C.1 C.2.1 hd rfl (k p l e R s m args below meth c X ad0 n0 A mc ms Qm C ad H locs cells slots ls S)

theorem g_lshr {T : s_T} {Φ : s_P} {pc : Nat} {lv : s_V} {st : List Value} {h : s_H} {n kc ks : Nat} {x : Int64} {y : Int32} (hd : decode T.2.1 pc = .ok (.lshr, 1)) 
    (k : s_G T Φ (pc + 1) lv (.long (x >>> (y.toInt64 &&& 63)) :: st) h n kc ks) : s_G T Φ pc lv (.int y :: .long x :: st) h n kc ks := by
  intro p l e R s m args below meth c X ad0 n0 A mc ms Qm C ad H locs cells slots ls S
  exact lv_lshr C.1 C.2.1 hd rfl (k p l e R s m args below meth c X ad0 n0 A mc ms Qm C ad H locs cells slots ls S)

theorem g_lcmp {T : s_T} {Φ : s_P} {pc : Nat} {lv : s_V} {st : List Value} {h : s_H} {n kc ks : Nat} {x y : Int64} (hd : decode T.2.1 pc = .ok (.lcmp, 1)) 
    (k : s_G T Φ (pc + 1) lv (.int (lg_cmp x y) :: st) h n kc ks) : s_G T Φ pc lv (.long y :: .long x :: st) h n kc ks := by
  intro p l e R s m args below meth c X ad0 n0 A mc ms Qm C ad H locs cells slots ls S
  exact W.lcmp C.1 C.2.1 hd (k p l e R s m args below meth c X ad0 n0 A mc ms Qm C ad H locs cells slots ls S)

theorem g_i2l {T : s_T} {Φ : s_P} {pc : Nat} {lv : s_V} {st : List Value} {h : s_H} {n kc ks : Nat} {x : Int32} (hd : decode T.2.1 pc = .ok (.i2l, 1)) 
    (k : s_G T Φ (pc + 1) lv (.long x.toInt64 :: st) h n kc ks) : s_G T Φ pc lv (.int x :: st) h n kc ks := by
  intro p l e R s m args below meth c X ad0 n0 A mc ms Qm C ad H locs cells slots ls S
  exact lv_i2l C.1 C.2.1 hd rfl (k p l e R s m args below meth c X ad0 n0 A mc ms Qm C ad H locs cells slots ls S)

theorem g_l2i {T : s_T} {Φ : s_P} {pc : Nat} {lv : s_V} {st : List Value} {h : s_H} {n kc ks : Nat} {x : Int64} (hd : decode T.2.1 pc = .ok (.l2i, 1)) 
    (k : s_G T Φ (pc + 1) lv (.int x.toInt32 :: st) h n kc ks) : s_G T Φ pc lv (.long x :: st) h n kc ks := by
  intro p l e R s m args below meth c X ad0 n0 A mc ms Qm C ad H locs cells slots ls S
  exact lv_l2i C.1 C.2.1 hd rfl (k p l e R s m args below meth c X ad0 n0 A mc ms Qm C ad H locs cells slots ls S)

theorem g_i2b {T : s_T} {Φ : s_P} {pc : Nat} {lv : s_V} {st : List Value} {h : s_H} {n kc ks : Nat} {x : Int32} (hd : decode T.2.1 pc = .ok (.i2b, 1)) 
    (k : s_G T Φ (pc + 1) lv (.int x.toInt8.toInt32 :: st) h n kc ks) : s_G T Φ pc lv (.int x :: st) h n kc ks := by
  intro p l e R s m args below meth c X ad0 n0 A mc ms Qm C ad H locs cells slots ls S
  exact lv_i2b C.1 C.2.1 hd rfl (k p l e R s m args below meth c X ad0 n0 A mc ms Qm C ad H locs cells slots ls S)

theorem g_i2c {T : s_T} {Φ : s_P} {pc : Nat} {lv : s_V} {st : List Value} {h : s_H} {n kc ks : Nat} {x : Int32} (hd : decode T.2.1 pc = .ok (.i2c, 1)) 
    (k : s_G T Φ (pc + 1) lv (.int (x.toUInt32 % 65536).toInt32 :: st) h n kc ks) : s_G T Φ pc lv (.int x :: st) h n kc ks := by
  intro p l e R s m args below meth c X ad0 n0 A mc ms Qm C ad H locs cells slots ls S
  exact lv_i2c C.1 C.2.1 hd rfl (k p l e R s m args below meth c X ad0 n0 A mc ms Qm C ad H locs cells slots ls S)

theorem g_i2f {T : s_T} {Φ : s_P} {pc : Nat} {lv : s_V} {st : List Value} {h : s_H} {n kc ks : Nat} {x : Int32} (hd : decode T.2.1 pc = .ok (.i2f, 1)) 
    (k : s_G T Φ (pc + 1) lv (.float (FP.i2f x) :: st) h n kc ks) : s_G T Φ pc lv (.int x :: st) h n kc ks := by
  intro p l e R s m args below meth c X ad0 n0 A mc ms Qm C ad H locs cells slots ls S
  exact lv_i2f C.1 C.2.1 hd (k p l e R s m args below meth c X ad0 n0 A mc ms Qm C ad H locs cells slots ls S)

theorem g_i2d {T : s_T} {Φ : s_P} {pc : Nat} {lv : s_V} {st : List Value} {h : s_H} {n kc ks : Nat} {x : Int32} (hd : decode T.2.1 pc = .ok (.i2d, 1)) 
    (k : s_G T Φ (pc + 1) lv (.double (FP.i2d x) :: st) h n kc ks) : s_G T Φ pc lv (.int x :: st) h n kc ks := by
  intro p l e R s m args below meth c X ad0 n0 A mc ms Qm C ad H locs cells slots ls S
  exact lv_i2d C.1 C.2.1 hd (k p l e R s m args below meth c X ad0 n0 A mc ms Qm C ad H locs cells slots ls S)

theorem g_f2d {T : s_T} {Φ : s_P} {pc : Nat} {lv : s_V} {st : List Value} {h : s_H} {n kc ks : Nat} {x : UInt32} (hd : decode T.2.1 pc = .ok (.f2d, 1)) (h0 : vf_n64 (FP.f2d x))
    (k : s_G T Φ (pc + 1) lv (.double (FP.f2d x) :: st) h n kc ks) : s_G T Φ pc lv (.float x :: st) h n kc ks := by
  intro p l e R s m args below meth c X ad0 n0 A mc ms Qm C ad H locs cells slots ls S
  exact lv_f2d C.1 C.2.1 hd h0 (k p l e R s m args below meth c X ad0 n0 A mc ms Qm C ad H locs cells slots ls S)

theorem g_fdiv {T : s_T} {Φ : s_P} {pc : Nat} {lv : s_V} {st : List Value} {h : s_H} {n kc ks : Nat} {x y : UInt32} (hd : decode T.2.1 pc = .ok (.fdiv, 1)) (h0 : vf_n32 (FP.fdiv x y))
    (k : s_G T Φ (pc + 1) lv (.float (FP.fdiv x y) :: st) h n kc ks) : s_G T Φ pc lv (.float y :: .float x :: st) h n kc ks := by
  intro p l e R s m args below meth c X ad0 n0 A mc ms Qm C ad H locs cells slots ls S
  exact lv_fdiv C.1 C.2.1 hd h0 (k p l e R s m args below meth c X ad0 n0 A mc ms Qm C ad H locs cells slots ls S)

theorem g_ddiv {T : s_T} {Φ : s_P} {pc : Nat} {lv : s_V} {st : List Value} {h : s_H} {n kc ks : Nat} {x y : UInt64} (hd : decode T.2.1 pc = .ok (.ddiv, 1)) (h0 : vf_n64 (FP.ddiv x y))
    (k : s_G T Φ (pc + 1) lv (.double (FP.ddiv x y) :: st) h n kc ks) : s_G T Φ pc lv (.double y :: .double x :: st) h n kc ks := by
  intro p l e R s m args below meth c X ad0 n0 A mc ms Qm C ad H locs cells slots ls S
  exact lv_ddiv C.1 C.2.1 hd h0 (k p l e R s m args below meth c X ad0 n0 A mc ms Qm C ad H locs cells slots ls S)

theorem g_dcmp {T : s_T} {Φ : s_P} {pc : Nat} {lv : s_V} {st : List Value} {h : s_H} {n kc ks : Nat} {x y : UInt64} {op : CmpOp} (hd : decode T.2.1 pc = .ok (.dcmp op, 1)) 
    (k : s_G T Φ (pc + 1) lv (.int (Op.cmpValue (FP.dcmp x y) op) :: st) h n kc ks) : s_G T Φ pc lv (.double y :: .double x :: st) h n kc ks := by
  intro p l e R s m args below meth c X ad0 n0 A mc ms Qm C ad H locs cells slots ls S
  exact lv_dcmp C.1 C.2.1 hd (k p l e R s m args below meth c X ad0 n0 A mc ms Qm C ad H locs cells slots ls S)

theorem g_fconst0 {T : s_T} {Φ : s_P} {pc : Nat} {lv : s_V} {st : List Value} {h : s_H} {n kc ks : Nat}  (hd : decode T.2.1 pc = .ok (.fconst 0, 1)) 
    (k : s_G T Φ (pc + 1) lv (.float FP.fconst0 :: st) h n kc ks) : s_G T Φ pc lv (st) h n kc ks := by
  intro p l e R s m args below meth c X ad0 n0 A mc ms Qm C ad H locs cells slots ls S
  exact lv_fconst0 C.1 C.2.1 hd (k p l e R s m args below meth c X ad0 n0 A mc ms Qm C ad H locs cells slots ls S)

theorem g_fconst1 {T : s_T} {Φ : s_P} {pc : Nat} {lv : s_V} {st : List Value} {h : s_H} {n kc ks : Nat}  (hd : decode T.2.1 pc = .ok (.fconst 1, 1)) 
    (k : s_G T Φ (pc + 1) lv (.float FP.fconst1 :: st) h n kc ks) : s_G T Φ pc lv (st) h n kc ks := by
  intro p l e R s m args below meth c X ad0 n0 A mc ms Qm C ad H locs cells slots ls S
  exact lv_fconst1 C.1 C.2.1 hd (k p l e R s m args below meth c X ad0 n0 A mc ms Qm C ad H locs cells slots ls S)

theorem g_dconst0 {T : s_T} {Φ : s_P} {pc : Nat} {lv : s_V} {st : List Value} {h : s_H} {n kc ks : Nat}  (hd : decode T.2.1 pc = .ok (.dconst 0, 1)) 
    (k : s_G T Φ (pc + 1) lv (.double FP.dconst0 :: st) h n kc ks) : s_G T Φ pc lv (st) h n kc ks := by
  intro p l e R s m args below meth c X ad0 n0 A mc ms Qm C ad H locs cells slots ls S
  exact lv_dconst0 C.1 C.2.1 hd (k p l e R s m args below meth c X ad0 n0 A mc ms Qm C ad H locs cells slots ls S)

theorem g_iconst {T : s_T} {Φ : s_P} {pc : Nat} {lv : s_V} {st : List Value} {h : s_H} {n kc ks : Nat} {i : Int} (v : Int32) (hd : decode T.2.1 pc = .ok (.iconst i, 1)) (hv : Int32.ofInt i = v)
    (k : s_G T Φ (pc + 1) lv (.int v :: st) h n kc ks) : s_G T Φ pc lv (st) h n kc ks := by
  intro p l e R s m args below meth c X ad0 n0 A mc ms Qm C ad H locs cells slots ls S
  exact lv_iconst C.1 C.2.1 hd hv (k p l e R s m args below meth c X ad0 n0 A mc ms Qm C ad H locs cells slots ls S)

theorem g_bipush {T : s_T} {Φ : s_P} {pc : Nat} {lv : s_V} {st : List Value} {h : s_H} {n kc ks : Nat} {i : Int} (v : Int32) (hd : decode T.2.1 pc = .ok (.bipush i, 2)) (hv : (Int8.ofInt i).toInt32 = v)
    (k : s_G T Φ (pc + 2) lv (.int v :: st) h n kc ks) : s_G T Φ pc lv (st) h n kc ks := by
  intro p l e R s m args below meth c X ad0 n0 A mc ms Qm C ad H locs cells slots ls S
  exact lv_bipush C.1 C.2.1 hd hv (k p l e R s m args below meth c X ad0 n0 A mc ms Qm C ad H locs cells slots ls S)

theorem g_sipush {T : s_T} {Φ : s_P} {pc : Nat} {lv : s_V} {st : List Value} {h : s_H} {n kc ks : Nat} {i : Int} (v : Int32) (hd : decode T.2.1 pc = .ok (.sipush i, 3)) (hv : (Int16.ofInt i).toInt32 = v)
    (k : s_G T Φ (pc + 3) lv (.int v :: st) h n kc ks) : s_G T Φ pc lv (st) h n kc ks := by
  intro p l e R s m args below meth c X ad0 n0 A mc ms Qm C ad H locs cells slots ls S
  exact lv_sipush C.1 C.2.1 hd hv (k p l e R s m args below meth c X ad0 n0 A mc ms Qm C ad H locs cells slots ls S)

theorem g_lconst {T : s_T} {Φ : s_P} {pc : Nat} {lv : s_V} {st : List Value} {h : s_H} {n kc ks : Nat} {i : Fin 2} (v : Int64) (hd : decode T.2.1 pc = .ok (.lconst i, 1)) (hv : Int64.ofNat (i : Nat) = v)
    (k : s_G T Φ (pc + 1) lv (.long v :: st) h n kc ks) : s_G T Φ pc lv (st) h n kc ks := by
  intro p l e R s m args below meth c X ad0 n0 A mc ms Qm C ad H locs cells slots ls S
  exact lv_lconst C.1 C.2.1 hd hv (k p l e R s m args below meth c X ad0 n0 A mc ms Qm C ad H locs cells slots ls S)

theorem g_null {T : s_T} {Φ : s_P} {pc : Nat} {lv : s_V} {st : List Value} {h : s_H} {n kc ks : Nat}  (hd : decode T.2.1 pc = .ok (.aconst_null, 1)) 
    (k : s_G T Φ (pc + 1) lv (.null :: st) h n kc ks) : s_G T Φ pc lv (st) h n kc ks := by
  intro p l e R s m args below meth c X ad0 n0 A mc ms Qm C ad H locs cells slots ls S
  exact lv_null C.1 C.2.1 hd (k p l e R s m args below meth c X ad0 n0 A mc ms Qm C ad H locs cells slots ls S)

theorem g_ldc {T : s_T} {Φ : s_P} {pc : Nat} {lv : s_V} {st : List Value} {h : s_H} {n kc ks : Nat} {i : Nat} {v : Int32} (hd : decode T.2.1 pc = .ok (.ldc i, 2)) (hw : Jvm.Cond.constant T.1.cls i v ∈ s_WL)
    (k : s_G T Φ (pc + 2) lv (.int v :: st) h n kc ks) : s_G T Φ pc lv (st) h n kc ks := by
  intro p l e R s m args below meth c X ad0 n0 A mc ms Qm C ad H locs cells slots ls S
  exact lv_ldc C.1 C.2.1 C.2.2.2.2.1 (C.2.2.2.2.2.1 _ hw) hd (k p l e R s m args below meth c X ad0 n0 A mc ms Qm C ad H locs cells slots ls S)

theorem g_ldc2 {T : s_T} {Φ : s_P} {pc : Nat} {lv : s_V} {st : List Value} {h : s_H} {n kc ks : Nat} {i : Nat} {v : Int64} (hd : decode T.2.1 pc = .ok (.ldc2_w i, 3)) (hw : Jvm.Cond.constantLong T.1.cls i v ∈ s_WL)
    (k : s_G T Φ (pc + 3) lv (.long v :: st) h n kc ks) : s_G T Φ pc lv (st) h n kc ks := by
  intro p l e R s m args below meth c X ad0 n0 A mc ms Qm C ad H locs cells slots ls S
  exact lv_ldc2 C.1 C.2.1 C.2.2.2.2.1 (C.2.2.2.2.2.1 _ hw) hd (k p l e R s m args below meth c X ad0 n0 A mc ms Qm C ad H locs cells slots ls S)

theorem g_dup {T : s_T} {Φ : s_P} {pc : Nat} {lv : s_V} {st : List Value} {h : s_H} {n kc ks : Nat} {v : Value} (hd : decode T.2.1 pc = .ok (.dup, 1)) (hv : v.category = 1)
    (k : s_G T Φ (pc + 1) lv (v :: v :: st) h n kc ks) : s_G T Φ pc lv (v :: st) h n kc ks := by
  intro p l e R s m args below meth c X ad0 n0 A mc ms Qm C ad H locs cells slots ls S
  exact lv_dup C.1 C.2.1 hd ((s_cat ad v).trans hv) (k p l e R s m args below meth c X ad0 n0 A mc ms Qm C ad H locs cells slots ls S)

theorem g_pop {T : s_T} {Φ : s_P} {pc : Nat} {lv : s_V} {st : List Value} {h : s_H} {n kc ks : Nat} {v : Value} (hd : decode T.2.1 pc = .ok (.pop, 1)) (hv : v.category = 1)
    (k : s_G T Φ (pc + 1) lv (st) h n kc ks) : s_G T Φ pc lv (v :: st) h n kc ks := by
  intro p l e R s m args below meth c X ad0 n0 A mc ms Qm C ad H locs cells slots ls S
  exact lv_pop C.1 C.2.1 hd ((s_cat ad v).trans hv) (k p l e R s m args below meth c X ad0 n0 A mc ms Qm C ad H locs cells slots ls S)

theorem g_dup_x1 {T : s_T} {Φ : s_P} {pc : Nat} {lv : s_V} {st : List Value} {h : s_H} {n kc ks : Nat} {v w : Value} (hd : decode T.2.1 pc = .ok (.dup_x1, 1)) (hv : v.category = 1) (hw : w.category = 1)
    (k : s_G T Φ (pc + 1) lv (v :: w :: v :: st) h n kc ks) : s_G T Φ pc lv (v :: w :: st) h n kc ks := by
  intro p l e R s m args below meth c X ad0 n0 A mc ms Qm C ad H locs cells slots ls S
  exact lv_dup_x1 C.1 C.2.1 hd ((s_cat ad v).trans hv) ((s_cat ad w).trans hw) (k p l e R s m args below meth c X ad0 n0 A mc ms Qm C ad H locs cells slots ls S)

theorem g_dup2 {T : s_T} {Φ : s_P} {pc : Nat} {lv : s_V} {st : List Value} {h : s_H} {n kc ks : Nat} {v w : Value} (hd : decode T.2.1 pc = .ok (.dup2, 1)) (hv : v.category = 1) (hw : w.category = 1)
    (k : s_G T Φ (pc + 1) lv (v :: w :: v :: w :: st) h n kc ks) : s_G T Φ pc lv (v :: w :: st) h n kc ks := by
  intro p l e R s m args below meth c X ad0 n0 A mc ms Qm C ad H locs cells slots ls S
  exact lv_dup2_11 C.1 C.2.1 hd ((s_cat ad v).trans hv) ((s_cat ad w).trans hw) (k p l e R s m args below meth c X ad0 n0 A mc ms Qm C ad H locs cells slots ls S)

theorem g_dup2_2 {T : s_T} {Φ : s_P} {pc : Nat} {lv : s_V} {st : List Value} {h : s_H} {n kc ks : Nat} {v : Value} (hd : decode T.2.1 pc = .ok (.dup2, 1)) (hv : v.category = 2)
    (k : s_G T Φ (pc + 1) lv (v :: v :: st) h n kc ks) : s_G T Φ pc lv (v :: st) h n kc ks := by
  intro p l e R s m args below meth c X ad0 n0 A mc ms Qm C ad H locs cells slots ls S
  exact lv_dup2_2 C.1 C.2.1 hd ((s_cat ad v).trans hv) (k p l e R s m args below meth c X ad0 n0 A mc ms Qm C ad H locs cells slots ls S)

theorem g_dup_x2 {T : s_T} {Φ : s_P} {pc : Nat} {lv : s_V} {st : List Value} {h : s_H} {n kc ks : Nat} {v w z : Value} (hd : decode T.2.1 pc = .ok (.dup_x2, 1)) (hv : v.category = 1) (hw : w.category = 1) (hz : z.category = 1)
    (k : s_G T Φ (pc + 1) lv (v :: w :: z :: v :: st) h n kc ks) : s_G T Φ pc lv (v :: w :: z :: st) h n kc ks := by
  intro p l e R s m args below meth c X ad0 n0 A mc ms Qm C ad H locs cells slots ls S
  exact lv_dup_x2 C.1 C.2.1 hd ((s_cat ad v).trans hv) ((s_cat ad w).trans hw) ((s_cat ad z).trans hz) (k p l e R s m args below meth c X ad0 n0 A mc ms Qm C ad H locs cells slots ls S)

theorem g_iload {T : s_T} {Φ : s_P} {pc : Nat} {lv : s_V} {st : List Value} {h : s_H} {n kc ks : Nat} {i : Nat} {x : Int32} (hd : decode T.2.1 pc = .ok (.iload i, 2)) (hl : lv i = some (.int x))
    (k : s_G T Φ (pc + 2) lv (.int x :: st) h n kc ks) : s_G T Φ pc lv (st) h n kc ks := by
  intro p l e R s m args below meth c X ad0 n0 A mc ms Qm C ad H locs cells slots ls S
  exact lv_iload C.1 C.2.1 hd (S.2.2.2.2.2.2.2.2.2.2 i _ hl) (k p l e R s m args below meth c X ad0 n0 A mc ms Qm C ad H locs cells slots ls S)

theorem g_iload_n {T : s_T} {Φ : s_P} {pc : Nat} {lv : s_V} {st : List Value} {h : s_H} {n kc ks : Nat} {j : Fin 4} {i : Nat} {x : Int32} (hd : decode T.2.1 pc = .ok (.iload_n j, 1)) (hi : (j : Nat) = i) (hl : lv i = some (.int x))
    (k : s_G T Φ (pc + 1) lv (.int x :: st) h n kc ks) : s_G T Φ pc lv (st) h n kc ks := by
  intro p l e R s m args below meth c X ad0 n0 A mc ms Qm C ad H locs cells slots ls S
  exact lv_iload_n C.1 C.2.1 hd hi (S.2.2.2.2.2.2.2.2.2.2 i _ hl) (k p l e R s m args below meth c X ad0 n0 A mc ms Qm C ad H locs cells slots ls S)

theorem g_lload {T : s_T} {Φ : s_P} {pc : Nat} {lv : s_V} {st : List Value} {h : s_H} {n kc ks : Nat} {i : Nat} {x : Int64} (hd : decode T.2.1 pc = .ok (.lload i, 2)) (hl : lv i = some (.long x))
    (k : s_G T Φ (pc + 2) lv (.long x :: st) h n kc ks) : s_G T Φ pc lv (st) h n kc ks := by
  intro p l e R s m args below meth c X ad0 n0 A mc ms Qm C ad H locs cells slots ls S
  exact lv_lload C.1 C.2.1 hd (S.2.2.2.2.2.2.2.2.2.2 i _ hl) (k p l e R s m args below meth c X ad0 n0 A mc ms Qm C ad H locs cells slots ls S)

theorem g_lload_n {T : s_T} {Φ : s_P} {pc : Nat} {lv : s_V} {st : List Value} {h : s_H} {n kc ks : Nat} {j : Fin 4} {i : Nat} {x : Int64} (hd : decode T.2.1 pc = .ok (.lload_n j, 1)) (hi : (j : Nat) = i) (hl : lv i = some (.long x))
    (k : s_G T Φ (pc + 1) lv (.long x :: st) h n kc ks) : s_G T Φ pc lv (st) h n kc ks := by
  intro p l e R s m args below meth c X ad0 n0 A mc ms Qm C ad H locs cells slots ls S
  exact lv_lload_n C.1 C.2.1 hd hi (S.2.2.2.2.2.2.2.2.2.2 i _ hl) (k p l e R s m args below meth c X ad0 n0 A mc ms Qm C ad H locs cells slots ls S)

theorem g_aload {T : s_T} {Φ : s_P} {pc : Nat} {lv : s_V} {st : List Value} {h : s_H} {n kc ks : Nat} {i : Nat} {x : Nat} (hd : decode T.2.1 pc = .ok (.aload i, 2)) (hl : lv i = some (.ref x))
    (k : s_G T Φ (pc + 2) lv (.ref x :: st) h n kc ks) : s_G T Φ pc lv (st) h n kc ks := by
  intro p l e R s m args below meth c X ad0 n0 A mc ms Qm C ad H locs cells slots ls S
  exact lv_aload C.1 C.2.1 hd (S.2.2.2.2.2.2.2.2.2.2 i _ hl) (k p l e R s m args below meth c X ad0 n0 A mc ms Qm C ad H locs cells slots ls S)

theorem g_aload_n {T : s_T} {Φ : s_P} {pc : Nat} {lv : s_V} {st : List Value} {h : s_H} {n kc ks : Nat} {j : Fin 4} {i : Nat} {x : Nat} (hd : decode T.2.1 pc = .ok (.aload_n j, 1)) (hi : (j : Nat) = i) (hl : lv i = some (.ref x))
    (k : s_G T Φ (pc + 1) lv (.ref x :: st) h n kc ks) : s_G T Φ pc lv (st) h n kc ks := by
  intro p l e R s m args below meth c X ad0 n0 A mc ms Qm C ad H locs cells slots ls S
  exact lv_aload_n C.1 C.2.1 hd hi (S.2.2.2.2.2.2.2.2.2.2 i _ hl) (k p l e R s m args below meth c X ad0 n0 A mc ms Qm C ad H locs cells slots ls S)

theorem g_dload {T : s_T} {Φ : s_P} {pc : Nat} {lv : s_V} {st : List Value} {h : s_H} {n kc ks : Nat} {i : Nat} {x : UInt64} (hd : decode T.2.1 pc = .ok (.dload i, 2)) (hl : lv i = some (.double x))
    (k : s_G T Φ (pc + 2) lv (.double x :: st) h n kc ks) : s_G T Φ pc lv (st) h n kc ks := by
  intro p l e R s m args below meth c X ad0 n0 A mc ms Qm C ad H locs cells slots ls S
  exact lv_dload C.1 C.2.1 hd (S.2.2.2.2.2.2.2.2.2.2 i _ hl) (k p l e R s m args below meth c X ad0 n0 A mc ms Qm C ad H locs cells slots ls S)

theorem g_dload_n {T : s_T} {Φ : s_P} {pc : Nat} {lv : s_V} {st : List Value} {h : s_H} {n kc ks : Nat} {j : Fin 4} {i : Nat} {x : UInt64} (hd : decode T.2.1 pc = .ok (.dload_n j, 1)) (hi : (j : Nat) = i) (hl : lv i = some (.double x))
    (k : s_G T Φ (pc + 1) lv (.double x :: st) h n kc ks) : s_G T Φ pc lv (st) h n kc ks := by
  intro p l e R s m args below meth c X ad0 n0 A mc ms Qm C ad H locs cells slots ls S
  exact lv_dload_n C.1 C.2.1 hd hi (S.2.2.2.2.2.2.2.2.2.2 i _ hl) (k p l e R s m args below meth c X ad0 n0 A mc ms Qm C ad H locs cells slots ls S)

theorem g_fload {T : s_T} {Φ : s_P} {pc : Nat} {lv : s_V} {st : List Value} {h : s_H} {n kc ks : Nat} {i : Nat} {x : UInt32} (hd : decode T.2.1 pc = .ok (.fload i, 2)) (hl : lv i = some (.float x))
    (k : s_G T Φ (pc + 2) lv (.float x :: st) h n kc ks) : s_G T Φ pc lv (st) h n kc ks := by
  intro p l e R s m args below meth c X ad0 n0 A mc ms Qm C ad H locs cells slots ls S
  exact lv_fload C.1 C.2.1 hd (S.2.2.2.2.2.2.2.2.2.2 i _ hl) (k p l e R s m args below meth c X ad0 n0 A mc ms Qm C ad H locs cells slots ls S)

theorem g_fload_n {T : s_T} {Φ : s_P} {pc : Nat} {lv : s_V} {st : List Value} {h : s_H} {n kc ks : Nat} {j : Fin 4} {i : Nat} {x : UInt32} (hd : decode T.2.1 pc = .ok (.fload_n j, 1)) (hi : (j : Nat) = i) (hl : lv i = some (.float x))
    (k : s_G T Φ (pc + 1) lv (.float x :: st) h n kc ks) : s_G T Φ pc lv (st) h n kc ks := by
  intro p l e R s m args below meth c X ad0 n0 A mc ms Qm C ad H locs cells slots ls S
  exact lv_fload_n C.1 C.2.1 hd hi (S.2.2.2.2.2.2.2.2.2.2 i _ hl) (k p l e R s m args below meth c X ad0 n0 A mc ms Qm C ad H locs cells slots ls S)
/-- storing into a local -/
def s_set (lv : s_V) (i : Nat) (v : Value) : s_V := fun j => if j = i then some v else if j + 1 = i then (match lv j with | some w => if w.category = 2 then none else some w | none => none) else lv j
def s_set2 (lv : s_V) (i : Nat) (v : Value) : s_V := fun j => if j = i then some v else if j = i + 1 then none else if j + 1 = i then (match lv j with | some w => if w.category = 2 then none else some w | none => none) else lv j
def s_ll (lv : s_V) (nL : Nat) (ad : Nat → Nat) : List (Nat × Value) := (List.range nL).filterMap (fun j => (lv j).map (fun v => (j, s_rv ad v)))
theorem s_ll_in {lv : s_V} {nL : Nat} {ad : Nat → Nat} {j : Nat} {v : Value} (hj : j < nL) (hv : lv j = some v) : (j, s_rv ad v) ∈ s_ll lv nL ad :=
  List.mem_filterMap.mpr ⟨j, List.mem_range.mpr hj, by rw [hv]; rfl⟩
theorem s_L.lt {ls : Array Slot} {nL : Nat} {lv : s_V} {ad : Nat → Nat} (h : s_L ls nL lv ad) {j : Nat} {v : Value} (hv : lv j = some v) : j < nL := by
  have := (Array.getElem?_eq_some_iff.mp (h.2.2 j v hv)).1
  rw [h.1] at this
  exact this
theorem s_L.has {ls : Array Slot} {nL : Nat} {lv : s_V} {ad : Nat → Nat} (h : s_L ls nL lv ad) : lv_has ls nL (s_ll lv nL ad) := by
  refine ⟨h.1, h.2.1, fun q hq => ?_⟩
  obtain ⟨j, hj, hq⟩ := List.mem_filterMap.mp hq
  cases hv : lv j with
  | none => rw [hv] at hq; cases hq
  | some v =>
    rw [hv] at hq
    cases hq
    exact h.2.2 j v hv
theorem s_L.set {ls ls' : Array Slot} {nL : Nat} {lv : s_V} {ad : Nat → Nat} {i : Nat} {v : Value} (h : s_L ls nL lv ad) (h' : lv_has ls' nL ((i, s_rv ad v) :: (s_ll lv nL ad).filter (fun q => !(q.1 == i) && !(q.1 + 1 == i && q.2.category == 2)))) : s_L ls' nL (s_set lv i v) ad := by
  refine ⟨h'.1, h'.2.1, fun j w hw => h'.2.2 (j, s_rv ad w) ?_⟩
  unfold s_set at hw
  by_cases h1 : j = i
  · rw [if_pos h1] at hw
    cases hw
    rw [h1]
    exact List.mem_cons_self
  · rw [if_neg h1] at hw
    refine List.mem_cons_of_mem _ (List.mem_filter.mpr ?_)
    by_cases h2 : j + 1 = i
    · rw [if_pos h2] at hw
      cases hj : lv j with
      | none => rw [hj] at hw; cases hw
      | some w' =>
        rw [hj] at hw
        by_cases h3 : w'.category = 2
        · simp [h3] at hw
        · simp only [h3, if_false] at hw
          cases hw
          refine ⟨s_ll_in (h.lt hj) hj, ?_⟩
          simp [h1, s_cat, h3]
    · rw [if_neg h2] at hw
      exact ⟨s_ll_in (h.lt hw) hw, by simp [h1, h2]⟩
theorem s_L.set2 {ls ls' : Array Slot} {nL : Nat} {lv : s_V} {ad : Nat → Nat} {i : Nat} {v : Value} (h : s_L ls nL lv ad) (h' : lv_has ls' nL ((i, s_rv ad v) :: (s_ll lv nL ad).filter (fun q => !(q.1 == i) && (!(q.1 == i + 1) && !(q.1 + 1 == i && q.2.category == 2))))) : s_L ls' nL (s_set2 lv i v) ad := by
  refine ⟨h'.1, h'.2.1, fun j w hw => h'.2.2 (j, s_rv ad w) ?_⟩
  unfold s_set2 at hw
  by_cases h1 : j = i
  · rw [if_pos h1] at hw
    cases hw
    rw [h1]
    exact List.mem_cons_self
  · rw [if_neg h1] at hw
    by_cases h0 : j = i + 1
    · rw [if_pos h0] at hw
      cases hw
    rw [if_neg h0] at hw
    refine List.mem_cons_of_mem _ (List.mem_filter.mpr ?_)
    by_cases h2 : j + 1 = i
    · rw [if_pos h2] at hw
      cases hj : lv j with
      | none => rw [hj] at hw; cases hw
      | some w' =>
        rw [hj] at hw
        by_cases h3 : w'.category = 2
        · simp [h3] at hw
        · simp only [h3, if_false] at hw
          cases hw
          refine ⟨s_ll_in (h.lt hj) hj, ?_⟩
          simp [h1, s_cat, h3, h0]
    · rw [if_neg h2] at hw
      exact ⟨s_ll_in (h.lt hw) hw, by simp [h1, h2, h0]⟩
theorem s_S.loc {nL : Nat} {s : State} {X : va_G × (Nat → ClassId)} {ad0 : Nat → Nat} {n0 : Nat} {A : Nat → Prop} {mc ms : Nat} {lv lv' : s_V} {h : s_H} {n kc ks : Nat} {ad : Nat → Nat} {H : Heap} {locs : List Loc} {cells slots : Nat} {ls ls' : Array Slot}
    (S : s_S nL s X ad0 n0 A mc ms lv h n kc ks ad H locs cells slots ls) (hL : s_L ls' nL lv' ad) : s_S nL s X ad0 n0 A mc ms lv' h n kc ks ad H locs cells slots ls' :=
  ⟨S.1, S.2.1, S.2.2.1, S.2.2.2.1, S.2.2.2.2.1, S.2.2.2.2.2.1, S.2.2.2.2.2.2.1, S.2.2.2.2.2.2.2.1, hL⟩
theorem g_if_eq {T : s_T} {Φ : s_P} {pc : Nat} {lv : s_V} {st : List Value} {h : s_H} {n kc ks : Nat} {x : Int32} {off : Int} {tgt : Nat} (hd : decode T.2.1 pc = .ok (.ifCond .eq off, 3)) (ht : (pc : Int) + off = (tgt : Int))
    (kt : x = 0 → s_G T Φ tgt lv st h n kc ks) (kf : ¬ x = 0 → s_G T Φ (pc + 3) lv st h n kc ks) : s_G T Φ pc lv (.int x :: st) h n kc ks := by
  intro p l e R s m args below meth c X ad0 n0 A mc ms Qm C ad H locs cells slots ls S
  exact lv_if_eq C.1 C.2.1 hd ht (fun q => kt q p l e R s m args below meth c X ad0 n0 A mc ms Qm C ad H locs cells slots ls S) (fun q => kf q p l e R s m args below meth c X ad0 n0 A mc ms Qm C ad H locs cells slots ls S)

theorem g_icmp_eq {T : s_T} {Φ : s_P} {pc : Nat} {lv : s_V} {st : List Value} {h : s_H} {n kc ks : Nat} {x y : Int32} {off : Int} {tgt : Nat} (hd : decode T.2.1 pc = .ok (.if_icmp .eq off, 3)) (ht : (pc : Int) + off = (tgt : Int))
    (kt : x = y → s_G T Φ tgt lv st h n kc ks) (kf : ¬ x = y → s_G T Φ (pc + 3) lv st h n kc ks) : s_G T Φ pc lv (.int y :: .int x :: st) h n kc ks := by
  intro p l e R s m args below meth c X ad0 n0 A mc ms Qm C ad H locs cells slots ls S
  exact lv_icmp_eq C.1 C.2.1 hd ht (fun q => kt q p l e R s m args below meth c X ad0 n0 A mc ms Qm C ad H locs cells slots ls S) (fun q => kf q p l e R s m args below meth c X ad0 n0 A mc ms Qm C ad H locs cells slots ls S)

theorem g_if_ne {T : s_T} {Φ : s_P} {pc : Nat} {lv : s_V} {st : List Value} {h : s_H} {n kc ks : Nat} {x : Int32} {off : Int} {tgt : Nat} (hd : decode T.2.1 pc = .ok (.ifCond .ne off, 3)) (ht : (pc : Int) + off = (tgt : Int))
    (kt : ¬ x = 0 → s_G T Φ tgt lv st h n kc ks) (kf : x = 0 → s_G T Φ (pc + 3) lv st h n kc ks) : s_G T Φ pc lv (.int x :: st) h n kc ks := by
  intro p l e R s m args below meth c X ad0 n0 A mc ms Qm C ad H locs cells slots ls S
  exact lv_if_ne C.1 C.2.1 hd ht (fun q => kt q p l e R s m args below meth c X ad0 n0 A mc ms Qm C ad H locs cells slots ls S) (fun q => kf q p l e R s m args below meth c X ad0 n0 A mc ms Qm C ad H locs cells slots ls S)

theorem g_icmp_ne {T : s_T} {Φ : s_P} {pc : Nat} {lv : s_V} {st : List Value} {h : s_H} {n kc ks : Nat} {x y : Int32} {off : Int} {tgt : Nat} (hd : decode T.2.1 pc = .ok (.if_icmp .ne off, 3)) (ht : (pc : Int) + off = (tgt : Int))
    (kt : ¬ x = y → s_G T Φ tgt lv st h n kc ks) (kf : x = y → s_G T Φ (pc + 3) lv st h n kc ks) : s_G T Φ pc lv (.int y :: .int x :: st) h n kc ks := by
  intro p l e R s m args below meth c X ad0 n0 A mc ms Qm C ad H locs cells slots ls S
  exact lv_icmp_ne C.1 C.2.1 hd ht (fun q => kt q p l e R s m args below meth c X ad0 n0 A mc ms Qm C ad H locs cells slots ls S) (fun q => kf q p l e R s m args below meth c X ad0 n0 A mc ms Qm C ad H locs cells slots ls S)

theorem g_if_lt {T : s_T} {Φ : s_P} {pc : Nat} {lv : s_V} {st : List Value} {h : s_H} {n kc ks : Nat} {x : Int32} {off : Int} {tgt : Nat} (hd : decode T.2.1 pc = .ok (.ifCond .lt off, 3)) (ht : (pc : Int) + off = (tgt : Int))
    (kt : x < 0 → s_G T Φ tgt lv st h n kc ks) (kf : ¬ x < 0 → s_G T Φ (pc + 3) lv st h n kc ks) : s_G T Φ pc lv (.int x :: st) h n kc ks := by
  intro p l e R s m args below meth c X ad0 n0 A mc ms Qm C ad H locs cells slots ls S
  exact lv_if_lt C.1 C.2.1 hd ht (fun q => kt q p l e R s m args below meth c X ad0 n0 A mc ms Qm C ad H locs cells slots ls S) (fun q => kf q p l e R s m args below meth c X ad0 n0 A mc ms Qm C ad H locs cells slots ls S)

theorem g_icmp_lt {T : s_T} {Φ : s_P} {pc : Nat} {lv : s_V} {st : List Value} {h : s_H} {n kc ks : Nat} {x y : Int32} {off : Int} {tgt : Nat} (hd : decode T.2.1 pc = .ok (.if_icmp .lt off, 3)) (ht : (pc : Int) + off = (tgt : Int))
    (kt : x < y → s_G T Φ tgt lv st h n kc ks) (kf : ¬ x < y → s_G T Φ (pc + 3) lv st h n kc ks) : s_G T Φ pc lv (.int y :: .int x :: st) h n kc ks := by
  intro p l e R s m args below meth c X ad0 n0 A mc ms Qm C ad H locs cells slots ls S
  exact lv_icmp_lt C.1 C.2.1 hd ht (fun q => kt q p l e R s m args below meth c X ad0 n0 A mc ms Qm C ad H locs cells slots ls S) (fun q => kf q p l e R s m args below meth c X ad0 n0 A mc ms Qm C ad H locs cells slots ls S)

theorem g_if_ge {T : s_T} {Φ : s_P} {pc : Nat} {lv : s_V} {st : List Value} {h : s_H} {n kc ks : Nat} {x : Int32} {off : Int} {tgt : Nat} (hd : decode T.2.1 pc = .ok (.ifCond .ge off, 3)) (ht : (pc : Int) + off = (tgt : Int))
    (kt : 0 ≤ x → s_G T Φ tgt lv st h n kc ks) (kf : ¬ 0 ≤ x → s_G T Φ (pc + 3) lv st h n kc ks) : s_G T Φ pc lv (.int x :: st) h n kc ks := by
  intro p l e R s m args below meth c X ad0 n0 A mc ms Qm C ad H locs cells slots ls S
  exact lv_if_ge C.1 C.2.1 hd ht (fun q => kt q p l e R s m args below meth c X ad0 n0 A mc ms Qm C ad H locs cells slots ls S) (fun q => kf q p l e R s m args below meth c X ad0 n0 A mc ms Qm C ad H locs cells slots ls S)

theorem g_icmp_ge {T : s_T} {Φ : s_P} {pc : Nat} {lv : s_V} {st : List Value} {h : s_H} {n kc ks : Nat} {x y : Int32} {off : Int} {tgt : Nat} (hd : decode T.2.1 pc = .ok (.if_icmp .ge off, 3)) (ht : (pc : Int) + off = (tgt : Int))
    (kt : y ≤ x → s_G T Φ tgt lv st h n kc ks) (kf : ¬ y ≤ x → s_G T Φ (pc + 3) lv st h n kc ks) : s_G T Φ pc lv (.int y :: .int x :: st) h n kc ks := by
  intro p l e R s m args below meth c X ad0 n0 A mc ms Qm C ad H locs cells slots ls S
  exact lv_icmp_ge C.1 C.2.1 hd ht (fun q => kt q p l e R s m args below meth c X ad0 n0 A mc ms Qm C ad H locs cells slots ls S) (fun q => kf q p l e R s m args below meth c X ad0 n0 A mc ms Qm C ad H locs cells slots ls S)

theorem g_if_gt {T : s_T} {Φ : s_P} {pc : Nat} {lv : s_V} {st : List Value} {h : s_H} {n kc ks : Nat} {x : Int32} {off : Int} {tgt : Nat} (hd : decode T.2.1 pc = .ok (.ifCond .gt off, 3)) (ht : (pc : Int) + off = (tgt : Int))
    (kt : 0 < x → s_G T Φ tgt lv st h n kc ks) (kf : ¬ 0 < x → s_G T Φ (pc + 3) lv st h n kc ks) : s_G T Φ pc lv (.int x :: st) h n kc ks := by
  intro p l e R s m args below meth c X ad0 n0 A mc ms Qm C ad H locs cells slots ls S
  exact lv_if_gt C.1 C.2.1 hd ht (fun q => kt q p l e R s m args below meth c X ad0 n0 A mc ms Qm C ad H locs cells slots ls S) (fun q => kf q p l e R s m args below meth c X ad0 n0 A mc ms Qm C ad H locs cells slots ls S)

theorem g_icmp_gt {T : s_T} {Φ : s_P} {pc : Nat} {lv : s_V} {st : List Value} {h : s_H} {n kc ks : Nat} {x y : Int32} {off : Int} {tgt : Nat} (hd : decode T.2.1 pc = .ok (.if_icmp .gt off, 3)) (ht : (pc : Int) + off = (tgt : Int))
    (kt : y < x → s_G T Φ tgt lv st h n kc ks) (kf : ¬ y < x → s_G T Φ (pc + 3) lv st h n kc ks) : s_G T Φ pc lv (.int y :: .int x :: st) h n kc ks := by
  intro p l e R s m args below meth c X ad0 n0 A mc ms Qm C ad H locs cells slots ls S
  exact lv_icmp_gt C.1 C.2.1 hd ht (fun q => kt q p l e R s m args below meth c X ad0 n0 A mc ms Qm C ad H locs cells slots ls S) (fun q => kf q p l e R s m args below meth c X ad0 n0 A mc ms Qm C ad H locs cells slots ls S)

theorem g_if_le {T : s_T} {Φ : s_P} {pc : Nat} {lv : s_V} {st : List Value} {h : s_H} {n kc ks : Nat} {x : Int32} {off : Int} {tgt : Nat} (hd : decode T.2.1 pc = .ok (.ifCond .le off, 3)) (ht : (pc : Int) + off = (tgt : Int))
    (kt : x ≤ 0 → s_G T Φ tgt lv st h n kc ks) (kf : ¬ x ≤ 0 → s_G T Φ (pc + 3) lv st h n kc ks) : s_G T Φ pc lv (.int x :: st) h n kc ks := by
  intro p l e R s m args below meth c X ad0 n0 A mc ms Qm C ad H locs cells slots ls S
  exact lv_if_le C.1 C.2.1 hd ht (fun q => kt q p l e R s m args below meth c X ad0 n0 A mc ms Qm C ad H locs cells slots ls S) (fun q => kf q p l e R s m args below meth c X ad0 n0 A mc ms Qm C ad H locs cells slots ls S)

theorem g_icmp_le {T : s_T} {Φ : s_P} {pc : Nat} {lv : s_V} {st : List Value} {h : s_H} {n kc ks : Nat} {x y : Int32} {off : Int} {tgt : Nat} (hd : decode T.2.1 pc = .ok (.if_icmp .le off, 3)) (ht : (pc : Int) + off = (tgt : Int))
    (kt : x ≤ y → s_G T Φ tgt lv st h n kc ks) (kf : ¬ x ≤ y → s_G T Φ (pc + 3) lv st h n kc ks) : s_G T Φ pc lv (.int y :: .int x :: st) h n kc ks := by
  intro p l e R s m args below meth c X ad0 n0 A mc ms Qm C ad H locs cells slots ls S
  exact lv_icmp_le C.1 C.2.1 hd ht (fun q => kt q p l e R s m args below meth c X ad0 n0 A mc ms Qm C ad H locs cells slots ls S) (fun q => kf q p l e R s m args below meth c X ad0 n0 A mc ms Qm C ad H locs cells slots ls S)

theorem g_goto {T : s_T} {Φ : s_P} {pc : Nat} {lv : s_V} {st : List Value} {h : s_H} {n kc ks : Nat} {off : Int} {tgt : Nat} (hd : decode T.2.1 pc = .ok (.goto off, 3)) (ht : (pc : Int) + off = (tgt : Int)) (k : s_G T Φ tgt lv st h n kc ks) : s_G T Φ pc lv st h n kc ks := by
  intro p l e R s m args below meth c X ad0 n0 A mc ms Qm C ad H locs cells slots ls S
  exact lv_goto C.1 C.2.1 hd ht (k p l e R s m args below meth c X ad0 n0 A mc ms Qm C ad H locs cells slots ls S)

theorem g_ifnonnullN {T : s_T} {Φ : s_P} {pc : Nat} {lv : s_V} {st : List Value} {h : s_H} {n kc ks : Nat} {off : Int} (hd : decode T.2.1 pc = .ok (.ifnonnull off, 3)) (k : s_G T Φ (pc + 3) lv st h n kc ks) : s_G T Φ pc lv (.null :: st) h n kc ks := by
  intro p l e R s m args below meth c X ad0 n0 A mc ms Qm C ad H locs cells slots ls S
  exact lv_ifnonnullN C.1 C.2.1 hd (k p l e R s m args below meth c X ad0 n0 A mc ms Qm C ad H locs cells slots ls S)

theorem g_ifnonnull {T : s_T} {Φ : s_P} {pc : Nat} {lv : s_V} {st : List Value} {h : s_H} {n kc ks : Nat} {a : Nat} {off : Int} {tgt : Nat} (hd : decode T.2.1 pc = .ok (.ifnonnull off, 3)) (ht : (pc : Int) + off = (tgt : Int)) (k : s_G T Φ tgt lv st h n kc ks) : s_G T Φ pc lv (.ref a :: st) h n kc ks := by
  intro p l e R s m args below meth c X ad0 n0 A mc ms Qm C ad H locs cells slots ls S
  exact lv_ifnonnull C.1 C.2.1 hd ht (k p l e R s m args below meth c X ad0 n0 A mc ms Qm C ad H locs cells slots ls S)
theorem g_istore {T : s_T} {Φ : s_P} {pc : Nat} {lv : s_V} {st : List Value} {h : s_H} {n kc ks : Nat} {i : Nat} {x : Int32} (hd : decode T.2.1 pc = .ok (.istore i, 2)) (hi : i < T.2.2.1)
    (k : s_G T Φ (pc + 2) (s_set lv i (.int x)) st h n kc ks) : s_G T Φ pc lv (.int x :: st) h n kc ks := by
  intro p l e R s m args below meth c X ad0 n0 A mc ms Qm C ad H locs cells slots ls S
  exact lv_istore C.1 C.2.1 hd S.2.2.2.2.2.2.2.2.has hi rfl (fun ls' hl' => k p l e R s m args below meth c X ad0 n0 A mc ms Qm C ad H locs cells slots ls' (S.loc (S.2.2.2.2.2.2.2.2.set hl')))

theorem g_istore_n {T : s_T} {Φ : s_P} {pc : Nat} {lv : s_V} {st : List Value} {h : s_H} {n kc ks : Nat} {j : Fin 4} {i : Nat} {x : Int32} (hd : decode T.2.1 pc = .ok (.istore_n j, 1)) (hj : (j : Nat) = i) (hi : i < T.2.2.1)
    (k : s_G T Φ (pc + 1) (s_set lv i (.int x)) st h n kc ks) : s_G T Φ pc lv (.int x :: st) h n kc ks := by
  intro p l e R s m args below meth c X ad0 n0 A mc ms Qm C ad H locs cells slots ls S
  exact lv_istore_n C.1 C.2.1 hd hj S.2.2.2.2.2.2.2.2.has hi rfl (fun ls' hl' => k p l e R s m args below meth c X ad0 n0 A mc ms Qm C ad H locs cells slots ls' (S.loc (S.2.2.2.2.2.2.2.2.set hl')))

theorem g_lstore {T : s_T} {Φ : s_P} {pc : Nat} {lv : s_V} {st : List Value} {h : s_H} {n kc ks : Nat} {i : Nat} {x : Int64} (hd : decode T.2.1 pc = .ok (.lstore i, 2)) (hi : i + 1 < T.2.2.1)
    (k : s_G T Φ (pc + 2) (s_set2 lv i (.long x)) st h n kc ks) : s_G T Φ pc lv (.long x :: st) h n kc ks := by
  intro p l e R s m args below meth c X ad0 n0 A mc ms Qm C ad H locs cells slots ls S
  exact lv_lstore C.1 C.2.1 hd S.2.2.2.2.2.2.2.2.has hi rfl (fun ls' hl' => k p l e R s m args below meth c X ad0 n0 A mc ms Qm C ad H locs cells slots ls' (S.loc (S.2.2.2.2.2.2.2.2.set2 hl')))

theorem g_lstore_n {T : s_T} {Φ : s_P} {pc : Nat} {lv : s_V} {st : List Value} {h : s_H} {n kc ks : Nat} {j : Fin 4} {i : Nat} {x : Int64} (hd : decode T.2.1 pc = .ok (.lstore_n j, 1)) (hj : (j : Nat) = i) (hi : i + 1 < T.2.2.1)
    (k : s_G T Φ (pc + 1) (s_set2 lv i (.long x)) st h n kc ks) : s_G T Φ pc lv (.long x :: st) h n kc ks := by
  intro p l e R s m args below meth c X ad0 n0 A mc ms Qm C ad H locs cells slots ls S
  exact lv_lstore_n C.1 C.2.1 hd hj S.2.2.2.2.2.2.2.2.has hi rfl (fun ls' hl' => k p l e R s m args below meth c X ad0 n0 A mc ms Qm C ad H locs cells slots ls' (S.loc (S.2.2.2.2.2.2.2.2.set2 hl')))

theorem g_astore {T : s_T} {Φ : s_P} {pc : Nat} {lv : s_V} {st : List Value} {h : s_H} {n kc ks : Nat} {i : Nat} {x : Nat} (hd : decode T.2.1 pc = .ok (.astore i, 2)) (hi : i < T.2.2.1)
    (k : s_G T Φ (pc + 2) (s_set lv i (.ref x)) st h n kc ks) : s_G T Φ pc lv (.ref x :: st) h n kc ks := by
  intro p l e R s m args below meth c X ad0 n0 A mc ms Qm C ad H locs cells slots ls S
  exact lv_astore C.1 C.2.1 hd S.2.2.2.2.2.2.2.2.has hi rfl (fun ls' hl' => k p l e R s m args below meth c X ad0 n0 A mc ms Qm C ad H locs cells slots ls' (S.loc (S.2.2.2.2.2.2.2.2.set hl')))

theorem g_astore_n {T : s_T} {Φ : s_P} {pc : Nat} {lv : s_V} {st : List Value} {h : s_H} {n kc ks : Nat} {j : Fin 4} {i : Nat} {x : Nat} (hd : decode T.2.1 pc = .ok (.astore_n j, 1)) (hj : (j : Nat) = i) (hi : i < T.2.2.1)
    (k : s_G T Φ (pc + 1) (s_set lv i (.ref x)) st h n kc ks) : s_G T Φ pc lv (.ref x :: st) h n kc ks := by
  intro p l e R s m args below meth c X ad0 n0 A mc ms Qm C ad H locs cells slots ls S
  exact lv_astore_n C.1 C.2.1 hd hj S.2.2.2.2.2.2.2.2.has hi rfl (fun ls' hl' => k p l e R s m args below meth c X ad0 n0 A mc ms Qm C ad H locs cells slots ls' (S.loc (S.2.2.2.2.2.2.2.2.set hl')))

theorem g_dstore {T : s_T} {Φ : s_P} {pc : Nat} {lv : s_V} {st : List Value} {h : s_H} {n kc ks : Nat} {i : Nat} {x : UInt64} (hd : decode T.2.1 pc = .ok (.dstore i, 2)) (hi : i + 1 < T.2.2.1)
    (k : s_G T Φ (pc + 2) (s_set2 lv i (.double x)) st h n kc ks) : s_G T Φ pc lv (.double x :: st) h n kc ks := by
  intro p l e R s m args below meth c X ad0 n0 A mc ms Qm C ad H locs cells slots ls S
  exact lv_dstore C.1 C.2.1 hd S.2.2.2.2.2.2.2.2.has hi rfl (fun ls' hl' => k p l e R s m args below meth c X ad0 n0 A mc ms Qm C ad H locs cells slots ls' (S.loc (S.2.2.2.2.2.2.2.2.set2 hl')))

theorem g_dstore_n {T : s_T} {Φ : s_P} {pc : Nat} {lv : s_V} {st : List Value} {h : s_H} {n kc ks : Nat} {j : Fin 4} {i : Nat} {x : UInt64} (hd : decode T.2.1 pc = .ok (.dstore_n j, 1)) (hj : (j : Nat) = i) (hi : i + 1 < T.2.2.1)
    (k : s_G T Φ (pc + 1) (s_set2 lv i (.double x)) st h n kc ks) : s_G T Φ pc lv (.double x :: st) h n kc ks := by
  intro p l e R s m args below meth c X ad0 n0 A mc ms Qm C ad H locs cells slots ls S
  exact lv_dstore_n C.1 C.2.1 hd hj S.2.2.2.2.2.2.2.2.has hi rfl (fun ls' hl' => k p l e R s m args below meth c X ad0 n0 A mc ms Qm C ad H locs cells slots ls' (S.loc (S.2.2.2.2.2.2.2.2.set2 hl')))

theorem g_fstore {T : s_T} {Φ : s_P} {pc : Nat} {lv : s_V} {st : List Value} {h : s_H} {n kc ks : Nat} {i : Nat} {x : UInt32} (hd : decode T.2.1 pc = .ok (.fstore i, 2)) (hi : i < T.2.2.1)
    (k : s_G T Φ (pc + 2) (s_set lv i (.float x)) st h n kc ks) : s_G T Φ pc lv (.float x :: st) h n kc ks := by
  intro p l e R s m args below meth c X ad0 n0 A mc ms Qm C ad H locs cells slots ls S
  exact lv_fstore C.1 C.2.1 hd S.2.2.2.2.2.2.2.2.has hi rfl (fun ls' hl' => k p l e R s m args below meth c X ad0 n0 A mc ms Qm C ad H locs cells slots ls' (S.loc (S.2.2.2.2.2.2.2.2.set hl')))

theorem g_fstore_n {T : s_T} {Φ : s_P} {pc : Nat} {lv : s_V} {st : List Value} {h : s_H} {n kc ks : Nat} {j : Fin 4} {i : Nat} {x : UInt32} (hd : decode T.2.1 pc = .ok (.fstore_n j, 1)) (hj : (j : Nat) = i) (hi : i < T.2.2.1)
    (k : s_G T Φ (pc + 1) (s_set lv i (.float x)) st h n kc ks) : s_G T Φ pc lv (.float x :: st) h n kc ks := by
  intro p l e R s m args below meth c X ad0 n0 A mc ms Qm C ad H locs cells slots ls S
  exact lv_fstore_n C.1 C.2.1 hd hj S.2.2.2.2.2.2.2.2.has hi rfl (fun ls' hl' => k p l e R s m args below meth c X ad0 n0 A mc ms Qm C ad H locs cells slots ls' (S.loc (S.2.2.2.2.2.2.2.2.set hl')))

theorem g_iinc {T : s_T} {Φ : s_P} {pc : Nat} {lv : s_V} {st : List Value} {h : s_H} {n kc ks : Nat} {i : Nat} {d : Int} {x : Int32} (v : Int32) (hd : decode T.2.1 pc = .ok (.iinc i d, 3)) (hl : lv i = some (.int x)) (hv : x + Int32.ofInt d = v)
    (k : s_G T Φ (pc + 3) (s_set lv i (.int v)) st h n kc ks) : s_G T Φ pc lv st h n kc ks := by
  intro p l e R s m args below meth c X ad0 n0 A mc ms Qm C ad H locs cells slots ls S
  obtain ⟨q, hq⟩ := List.getElem?_of_mem (s_ll_in (S.2.2.2.2.2.2.2.2.lt hl) hl (ad := ad))
  exact lv_iinc C.1 C.2.1 hd S.2.2.2.2.2.2.2.2.has (k := q) hq hv (S.2.2.2.2.2.2.2.2.lt hl) rfl (fun ls' hl' => k p l e R s m args below meth c X ad0 n0 A mc ms Qm C ad H locs cells slots ls' (S.loc (S.2.2.2.2.2.2.2.2.set (v := .int v) hl')))
