/-! THE LAW'S JUDGEMENT: s_G with a fact Ω of what lies outside (the script), and its rows (by text change, wip/src/law4.py) -/
abbrev s_Om : Type := State → (Nat → Nat) → (Nat → Prop) → Prop
def s_GL (Ω : s_Om) (T : s_T) (Φ : s_P) (pc : Nat) (lv : s_V) (st : List Value) (h : s_H) (n kc ks : Nat) : Prop :=
  ∀ (p : Program) (l : Launch) (e : Env) (R : Room) (s : State) (m : MethodId) (args : Array Value) (below : List Frame) (meth : Method) (c : Code) (X : va_G × (Nat → ClassId)) (ad0 : Nat → Nat) (n0 : Nat) (A : Nat → Prop) (mc ms : Nat) (Qm : State → Prop),
    s_C T Φ p l e R s m args below meth c X ad0 n0 A mc ms Qm → Ω s ad0 A → ∀ (ad : Nat → Nat) (H : Heap) (locs : List Loc) (cells slots : Nat) (ls : Array Slot), s_S T.2.2.1 s X ad0 n0 A mc ms lv h n kc ks ad H locs cells slots ls →
    W p l e R s m args below meth c H locs cells slots Qm (F0 m pc ls (st.map (s_rv ad)))
def s_GXL (Ω : s_Om) (T : s_T) (Φ : s_P) (pc : Nat) (lv : s_V) (E : String) (h : s_H) (n kc ks : Nat) : Prop :=
  ∀ (p : Program) (l : Launch) (e : Env) (R : Room) (s : State) (m : MethodId) (args : Array Value) (below : List Frame) (meth : Method) (c : Code) (X : va_G × (Nat → ClassId)) (ad0 : Nat → Nat) (n0 : Nat) (A : Nat → Prop) (mc ms : Nat) (Qm : State → Prop),
    s_C T Φ p l e R s m args below meth c X ad0 n0 A mc ms Qm → Ω s ad0 A → ∀ (rest : List Value) (q : Nat) (ce : Cell) (ad : Nat → Nat) (H : Heap) (locs : List Loc) (cells slots : Nat) (ls : Array Slot), s_S T.2.2.1 s X ad0 n0 A mc ms lv h n kc ks ad H locs cells slots ls →
    H[q]? = some ce → ce.vm = .none → s.vm.findClass E = some ce.cls → vx_W p l e R s m args below meth c H locs cells slots Qm (F0 m pc ls rest) q

theorem gl_sub {Ω : s_Om} {T : s_T} {Φ : s_P} {pc : Nat} {lv lv' : s_V} {st : List Value} {h : s_H} {n kc ks kc' ks' : Nat} (k : s_GL Ω T Φ pc lv' st h n kc' ks') (hs : ∀ i v, lv' i = some v → lv i = some v) (hc : kc' ≤ kc) (hk : ks' ≤ ks) : s_GL Ω T Φ pc lv st h n kc ks := by
  intro p l e R s m args below meth c X ad0 n0 A mc ms Qm C O ad H locs cells slots ls S
  exact k p l e R s m args below meth c X ad0 n0 A mc ms Qm C O ad H locs cells slots ls (S.sub hs hc hk)

theorem gl_ret {Ω : s_Om} {T : s_T} {Φ : s_P} {pc : Nat} {lv : s_V} {h : s_H} {n kc ks : Nat} (v : Option Value) (hr : s_rt T v pc) (hq : Φ (.inl v) h n) : s_GL Ω T Φ pc lv v.toList h n kc ks := by
  intro p l e R s m args below meth c X ad0 n0 A mc ms Qm C O ad H locs cells slots ls S
  have hEr := C.2.2.2.2.2.2.2.2.2.2.2.2.2.2.1
  have h1 := hEr v h n pc ad H locs cells slots ls hr hq (S.sub (fun i v q => by cases q) (Nat.zero_le _) (Nat.zero_le _))
  have e : v.toList.map (s_rv ad) = (v.map (s_rv ad)).toList := by cases v <;> rfl
  rw [e]
  exact h1

theorem gl_aload_n {Ω : s_Om} {T : s_T} {Φ : s_P} {pc : Nat} {lv : s_V} {st : List Value} {h : s_H} {n kc ks : Nat} {j : Fin 4} {i : Nat} {x : Nat} (hd : decode T.2.1 pc = .ok (.aload_n j, 1)) (hi : (j : Nat) = i) (hl : lv i = some (.ref x))
    (k : s_GL Ω T Φ (pc + 1) lv (.ref x :: st) h n kc ks) : s_GL Ω T Φ pc lv (st) h n kc ks := by
  intro p l e R s m args below meth c X ad0 n0 A mc ms Qm C O ad H locs cells slots ls S
  exact lv_aload_n C.1 C.2.1 hd hi (S.2.2.2.2.2.2.2.2.2.2 i _ hl) (k p l e R s m args below meth c X ad0 n0 A mc ms Qm C O ad H locs cells slots ls S)

theorem gl_iconst {Ω : s_Om} {T : s_T} {Φ : s_P} {pc : Nat} {lv : s_V} {st : List Value} {h : s_H} {n kc ks : Nat} {i : Int} (v : Int32) (hd : decode T.2.1 pc = .ok (.iconst i, 1)) (hv : Int32.ofInt i = v)
    (k : s_GL Ω T Φ (pc + 1) lv (.int v :: st) h n kc ks) : s_GL Ω T Φ pc lv (st) h n kc ks := by
  intro p l e R s m args below meth c X ad0 n0 A mc ms Qm C O ad H locs cells slots ls S
  exact lv_iconst C.1 C.2.1 hd hv (k p l e R s m args below meth c X ad0 n0 A mc ms Qm C O ad H locs cells slots ls S)

theorem gl_bipush {Ω : s_Om} {T : s_T} {Φ : s_P} {pc : Nat} {lv : s_V} {st : List Value} {h : s_H} {n kc ks : Nat} {i : Int} (v : Int32) (hd : decode T.2.1 pc = .ok (.bipush i, 2)) (hv : (Int8.ofInt i).toInt32 = v)
    (k : s_GL Ω T Φ (pc + 2) lv (.int v :: st) h n kc ks) : s_GL Ω T Φ pc lv (st) h n kc ks := by
  intro p l e R s m args below meth c X ad0 n0 A mc ms Qm C O ad H locs cells slots ls S
  exact lv_bipush C.1 C.2.1 hd hv (k p l e R s m args below meth c X ad0 n0 A mc ms Qm C O ad H locs cells slots ls S)

theorem gl_iload {Ω : s_Om} {T : s_T} {Φ : s_P} {pc : Nat} {lv : s_V} {st : List Value} {h : s_H} {n kc ks : Nat} {i : Nat} {x : Int32} (hd : decode T.2.1 pc = .ok (.iload i, 2)) (hl : lv i = some (.int x))
    (k : s_GL Ω T Φ (pc + 2) lv (.int x :: st) h n kc ks) : s_GL Ω T Φ pc lv (st) h n kc ks := by
  intro p l e R s m args below meth c X ad0 n0 A mc ms Qm C O ad H locs cells slots ls S
  exact lv_iload C.1 C.2.1 hd (S.2.2.2.2.2.2.2.2.2.2 i _ hl) (k p l e R s m args below meth c X ad0 n0 A mc ms Qm C O ad H locs cells slots ls S)

theorem gl_istore {Ω : s_Om} {T : s_T} {Φ : s_P} {pc : Nat} {lv : s_V} {st : List Value} {h : s_H} {n kc ks : Nat} {i : Nat} {x : Int32} (hd : decode T.2.1 pc = .ok (.istore i, 2)) (hi : i < T.2.2.1)
    (k : s_GL Ω T Φ (pc + 2) (s_set lv i (.int x)) st h n kc ks) : s_GL Ω T Φ pc lv (.int x :: st) h n kc ks := by
  intro p l e R s m args below meth c X ad0 n0 A mc ms Qm C O ad H locs cells slots ls S
  exact lv_istore C.1 C.2.1 hd S.2.2.2.2.2.2.2.2.has hi rfl (fun ls' hl' => k p l e R s m args below meth c X ad0 n0 A mc ms Qm C O ad H locs cells slots ls' (S.loc (S.2.2.2.2.2.2.2.2.set hl')))

theorem gl_dload {Ω : s_Om} {T : s_T} {Φ : s_P} {pc : Nat} {lv : s_V} {st : List Value} {h : s_H} {n kc ks : Nat} {i : Nat} {x : UInt64} (hd : decode T.2.1 pc = .ok (.dload i, 2)) (hl : lv i = some (.double x))
    (k : s_GL Ω T Φ (pc + 2) lv (.double x :: st) h n kc ks) : s_GL Ω T Φ pc lv (st) h n kc ks := by
  intro p l e R s m args below meth c X ad0 n0 A mc ms Qm C O ad H locs cells slots ls S
  exact lv_dload C.1 C.2.1 hd (S.2.2.2.2.2.2.2.2.2.2 i _ hl) (k p l e R s m args below meth c X ad0 n0 A mc ms Qm C O ad H locs cells slots ls S)

theorem gl_dstore {Ω : s_Om} {T : s_T} {Φ : s_P} {pc : Nat} {lv : s_V} {st : List Value} {h : s_H} {n kc ks : Nat} {i : Nat} {x : UInt64} (hd : decode T.2.1 pc = .ok (.dstore i, 2)) (hi : i + 1 < T.2.2.1)
    (k : s_GL Ω T Φ (pc + 2) (s_set2 lv i (.double x)) st h n kc ks) : s_GL Ω T Φ pc lv (.double x :: st) h n kc ks := by
  intro p l e R s m args below meth c X ad0 n0 A mc ms Qm C O ad H locs cells slots ls S
  exact lv_dstore C.1 C.2.1 hd S.2.2.2.2.2.2.2.2.has hi rfl (fun ls' hl' => k p l e R s m args below meth c X ad0 n0 A mc ms Qm C O ad H locs cells slots ls' (S.loc (S.2.2.2.2.2.2.2.2.set2 hl')))

theorem gl_astore_n {Ω : s_Om} {T : s_T} {Φ : s_P} {pc : Nat} {lv : s_V} {st : List Value} {h : s_H} {n kc ks : Nat} {j : Fin 4} {i : Nat} {x : Nat} (hd : decode T.2.1 pc = .ok (.astore_n j, 1)) (hj : (j : Nat) = i) (hi : i < T.2.2.1)
    (k : s_GL Ω T Φ (pc + 1) (s_set lv i (.ref x)) st h n kc ks) : s_GL Ω T Φ pc lv (.ref x :: st) h n kc ks := by
  intro p l e R s m args below meth c X ad0 n0 A mc ms Qm C O ad H locs cells slots ls S
  exact lv_astore_n C.1 C.2.1 hd hj S.2.2.2.2.2.2.2.2.has hi rfl (fun ls' hl' => k p l e R s m args below meth c X ad0 n0 A mc ms Qm C O ad H locs cells slots ls' (S.loc (S.2.2.2.2.2.2.2.2.set hl')))

theorem gl_iadd {Ω : s_Om} {T : s_T} {Φ : s_P} {pc : Nat} {lv : s_V} {st : List Value} {h : s_H} {n kc ks : Nat} {x y : Int32} (hd : decode T.2.1 pc = .ok (.iadd, 1)) 
    (k : s_GL Ω T Φ (pc + 1) lv (.int (x + y) :: st) h n kc ks) : s_GL Ω T Φ pc lv (.int y :: .int x :: st) h n kc ks := by
  intro p l e R s m args below meth c X ad0 n0 A mc ms Qm C O ad H locs cells slots ls S
  exact lv_iadd C.1 C.2.1 hd (k p l e R s m args below meth c X ad0 n0 A mc ms Qm C O ad H locs cells slots ls S)

theorem gl_isub {Ω : s_Om} {T : s_T} {Φ : s_P} {pc : Nat} {lv : s_V} {st : List Value} {h : s_H} {n kc ks : Nat} {x y : Int32} (hd : decode T.2.1 pc = .ok (.isub, 1)) 
    (k : s_GL Ω T Φ (pc + 1) lv (.int (x - y) :: st) h n kc ks) : s_GL Ω T Φ pc lv (.int y :: .int x :: st) h n kc ks := by
  intro p l e R s m args below meth c X ad0 n0 A mc ms Qm C O ad H locs cells slots ls S
  exact lv_isub C.1 C.2.1 hd (k p l e R s m args below meth c X ad0 n0 A mc ms Qm C O ad H locs cells slots ls S)

theorem gl_iand {Ω : s_Om} {T : s_T} {Φ : s_P} {pc : Nat} {lv : s_V} {st : List Value} {h : s_H} {n kc ks : Nat} {x y : Int32} (hd : decode T.2.1 pc = .ok (.iand, 1)) 
    (k : s_GL Ω T Φ (pc + 1) lv (.int (x &&& y) :: st) h n kc ks) : s_GL Ω T Φ pc lv (.int y :: .int x :: st) h n kc ks := by
  intro p l e R s m args below meth c X ad0 n0 A mc ms Qm C O ad H locs cells slots ls S
  exact lv_iand C.1 C.2.1 hd (k p l e R s m args below meth c X ad0 n0 A mc ms Qm C O ad H locs cells slots ls S)

theorem gl_iinc {Ω : s_Om} {T : s_T} {Φ : s_P} {pc : Nat} {lv : s_V} {st : List Value} {h : s_H} {n kc ks : Nat} {i : Nat} {d : Int} {x : Int32} (v : Int32) (hd : decode T.2.1 pc = .ok (.iinc i d, 3)) (hl : lv i = some (.int x)) (hv : x + Int32.ofInt d = v)
    (k : s_GL Ω T Φ (pc + 3) (s_set lv i (.int v)) st h n kc ks) : s_GL Ω T Φ pc lv st h n kc ks := by
  intro p l e R s m args below meth c X ad0 n0 A mc ms Qm C O ad H locs cells slots ls S
  obtain ⟨q, hq⟩ := List.getElem?_of_mem (s_ll_in (S.2.2.2.2.2.2.2.2.lt hl) hl (ad := ad))
  exact lv_iinc C.1 C.2.1 hd S.2.2.2.2.2.2.2.2.has (k := q) hq hv (S.2.2.2.2.2.2.2.2.lt hl) rfl (fun ls' hl' => k p l e R s m args below meth c X ad0 n0 A mc ms Qm C O ad H locs cells slots ls' (S.loc (S.2.2.2.2.2.2.2.2.set (v := .int v) hl')))

theorem gl_i2l {Ω : s_Om} {T : s_T} {Φ : s_P} {pc : Nat} {lv : s_V} {st : List Value} {h : s_H} {n kc ks : Nat} {x : Int32} (hd : decode T.2.1 pc = .ok (.i2l, 1)) 
    (k : s_GL Ω T Φ (pc + 1) lv (.long x.toInt64 :: st) h n kc ks) : s_GL Ω T Φ pc lv (.int x :: st) h n kc ks := by
  intro p l e R s m args below meth c X ad0 n0 A mc ms Qm C O ad H locs cells slots ls S
  exact lv_i2l C.1 C.2.1 hd rfl (k p l e R s m args below meth c X ad0 n0 A mc ms Qm C O ad H locs cells slots ls S)

theorem gl_f2d {Ω : s_Om} {T : s_T} {Φ : s_P} {pc : Nat} {lv : s_V} {st : List Value} {h : s_H} {n kc ks : Nat} {x : UInt32} (hd : decode T.2.1 pc = .ok (.f2d, 1)) (h0 : vf_n64 (FP.f2d x))
    (k : s_GL Ω T Φ (pc + 1) lv (.double (FP.f2d x) :: st) h n kc ks) : s_GL Ω T Φ pc lv (.float x :: st) h n kc ks := by
  intro p l e R s m args below meth c X ad0 n0 A mc ms Qm C O ad H locs cells slots ls S
  exact lv_f2d C.1 C.2.1 hd h0 (k p l e R s m args below meth c X ad0 n0 A mc ms Qm C O ad H locs cells slots ls S)

theorem gl_lcmp {Ω : s_Om} {T : s_T} {Φ : s_P} {pc : Nat} {lv : s_V} {st : List Value} {h : s_H} {n kc ks : Nat} {x y : Int64} (hd : decode T.2.1 pc = .ok (.lcmp, 1)) 
    (k : s_GL Ω T Φ (pc + 1) lv (.int (lg_cmp x y) :: st) h n kc ks) : s_GL Ω T Φ pc lv (.long y :: .long x :: st) h n kc ks := by
  intro p l e R s m args below meth c X ad0 n0 A mc ms Qm C O ad H locs cells slots ls S
  exact W.lcmp C.1 C.2.1 hd (k p l e R s m args below meth c X ad0 n0 A mc ms Qm C O ad H locs cells slots ls S)

theorem gl_dcmp {Ω : s_Om} {T : s_T} {Φ : s_P} {pc : Nat} {lv : s_V} {st : List Value} {h : s_H} {n kc ks : Nat} {x y : UInt64} {op : CmpOp} (hd : decode T.2.1 pc = .ok (.dcmp op, 1)) 
    (k : s_GL Ω T Φ (pc + 1) lv (.int (Op.cmpValue (FP.dcmp x y) op) :: st) h n kc ks) : s_GL Ω T Φ pc lv (.double y :: .double x :: st) h n kc ks := by
  intro p l e R s m args below meth c X ad0 n0 A mc ms Qm C O ad H locs cells slots ls S
  exact lv_dcmp C.1 C.2.1 hd (k p l e R s m args below meth c X ad0 n0 A mc ms Qm C O ad H locs cells slots ls S)

theorem gl_lconst {Ω : s_Om} {T : s_T} {Φ : s_P} {pc : Nat} {lv : s_V} {st : List Value} {h : s_H} {n kc ks : Nat} {i : Fin 2} (v : Int64) (hd : decode T.2.1 pc = .ok (.lconst i, 1)) (hv : Int64.ofNat (i : Nat) = v)
    (k : s_GL Ω T Φ (pc + 1) lv (.long v :: st) h n kc ks) : s_GL Ω T Φ pc lv (st) h n kc ks := by
  intro p l e R s m args below meth c X ad0 n0 A mc ms Qm C O ad H locs cells slots ls S
  exact lv_lconst C.1 C.2.1 hd hv (k p l e R s m args below meth c X ad0 n0 A mc ms Qm C O ad H locs cells slots ls S)

theorem gl_dup {Ω : s_Om} {T : s_T} {Φ : s_P} {pc : Nat} {lv : s_V} {st : List Value} {h : s_H} {n kc ks : Nat} {v : Value} (hd : decode T.2.1 pc = .ok (.dup, 1)) (hv : v.category = 1)
    (k : s_GL Ω T Φ (pc + 1) lv (v :: v :: st) h n kc ks) : s_GL Ω T Φ pc lv (v :: st) h n kc ks := by
  intro p l e R s m args below meth c X ad0 n0 A mc ms Qm C O ad H locs cells slots ls S
  exact lv_dup C.1 C.2.1 hd ((s_cat ad v).trans hv) (k p l e R s m args below meth c X ad0 n0 A mc ms Qm C O ad H locs cells slots ls S)

theorem gl_if_eq {Ω : s_Om} {T : s_T} {Φ : s_P} {pc : Nat} {lv : s_V} {st : List Value} {h : s_H} {n kc ks : Nat} {x : Int32} {off : Int} {tgt : Nat} (hd : decode T.2.1 pc = .ok (.ifCond .eq off, 3)) (ht : (pc : Int) + off = (tgt : Int))
    (kt : x = 0 → s_GL Ω T Φ tgt lv st h n kc ks) (kf : ¬ x = 0 → s_GL Ω T Φ (pc + 3) lv st h n kc ks) : s_GL Ω T Φ pc lv (.int x :: st) h n kc ks := by
  intro p l e R s m args below meth c X ad0 n0 A mc ms Qm C O ad H locs cells slots ls S
  exact lv_if_eq C.1 C.2.1 hd ht (fun q => kt q p l e R s m args below meth c X ad0 n0 A mc ms Qm C O ad H locs cells slots ls S) (fun q => kf q p l e R s m args below meth c X ad0 n0 A mc ms Qm C O ad H locs cells slots ls S)

theorem gl_if_ne {Ω : s_Om} {T : s_T} {Φ : s_P} {pc : Nat} {lv : s_V} {st : List Value} {h : s_H} {n kc ks : Nat} {x : Int32} {off : Int} {tgt : Nat} (hd : decode T.2.1 pc = .ok (.ifCond .ne off, 3)) (ht : (pc : Int) + off = (tgt : Int))
    (kt : ¬ x = 0 → s_GL Ω T Φ tgt lv st h n kc ks) (kf : x = 0 → s_GL Ω T Φ (pc + 3) lv st h n kc ks) : s_GL Ω T Φ pc lv (.int x :: st) h n kc ks := by
  intro p l e R s m args below meth c X ad0 n0 A mc ms Qm C O ad H locs cells slots ls S
  exact lv_if_ne C.1 C.2.1 hd ht (fun q => kt q p l e R s m args below meth c X ad0 n0 A mc ms Qm C O ad H locs cells slots ls S) (fun q => kf q p l e R s m args below meth c X ad0 n0 A mc ms Qm C O ad H locs cells slots ls S)

theorem gl_if_lt {Ω : s_Om} {T : s_T} {Φ : s_P} {pc : Nat} {lv : s_V} {st : List Value} {h : s_H} {n kc ks : Nat} {x : Int32} {off : Int} {tgt : Nat} (hd : decode T.2.1 pc = .ok (.ifCond .lt off, 3)) (ht : (pc : Int) + off = (tgt : Int))
    (kt : x < 0 → s_GL Ω T Φ tgt lv st h n kc ks) (kf : ¬ x < 0 → s_GL Ω T Φ (pc + 3) lv st h n kc ks) : s_GL Ω T Φ pc lv (.int x :: st) h n kc ks := by
  intro p l e R s m args below meth c X ad0 n0 A mc ms Qm C O ad H locs cells slots ls S
  exact lv_if_lt C.1 C.2.1 hd ht (fun q => kt q p l e R s m args below meth c X ad0 n0 A mc ms Qm C O ad H locs cells slots ls S) (fun q => kf q p l e R s m args below meth c X ad0 n0 A mc ms Qm C O ad H locs cells slots ls S)

theorem gl_if_ge {Ω : s_Om} {T : s_T} {Φ : s_P} {pc : Nat} {lv : s_V} {st : List Value} {h : s_H} {n kc ks : Nat} {x : Int32} {off : Int} {tgt : Nat} (hd : decode T.2.1 pc = .ok (.ifCond .ge off, 3)) (ht : (pc : Int) + off = (tgt : Int))
    (kt : 0 ≤ x → s_GL Ω T Φ tgt lv st h n kc ks) (kf : ¬ 0 ≤ x → s_GL Ω T Φ (pc + 3) lv st h n kc ks) : s_GL Ω T Φ pc lv (.int x :: st) h n kc ks := by
  intro p l e R s m args below meth c X ad0 n0 A mc ms Qm C O ad H locs cells slots ls S
  exact lv_if_ge C.1 C.2.1 hd ht (fun q => kt q p l e R s m args below meth c X ad0 n0 A mc ms Qm C O ad H locs cells slots ls S) (fun q => kf q p l e R s m args below meth c X ad0 n0 A mc ms Qm C O ad H locs cells slots ls S)

theorem gl_if_gt {Ω : s_Om} {T : s_T} {Φ : s_P} {pc : Nat} {lv : s_V} {st : List Value} {h : s_H} {n kc ks : Nat} {x : Int32} {off : Int} {tgt : Nat} (hd : decode T.2.1 pc = .ok (.ifCond .gt off, 3)) (ht : (pc : Int) + off = (tgt : Int))
    (kt : 0 < x → s_GL Ω T Φ tgt lv st h n kc ks) (kf : ¬ 0 < x → s_GL Ω T Φ (pc + 3) lv st h n kc ks) : s_GL Ω T Φ pc lv (.int x :: st) h n kc ks := by
  intro p l e R s m args below meth c X ad0 n0 A mc ms Qm C O ad H locs cells slots ls S
  exact lv_if_gt C.1 C.2.1 hd ht (fun q => kt q p l e R s m args below meth c X ad0 n0 A mc ms Qm C O ad H locs cells slots ls S) (fun q => kf q p l e R s m args below meth c X ad0 n0 A mc ms Qm C O ad H locs cells slots ls S)

theorem gl_if_le {Ω : s_Om} {T : s_T} {Φ : s_P} {pc : Nat} {lv : s_V} {st : List Value} {h : s_H} {n kc ks : Nat} {x : Int32} {off : Int} {tgt : Nat} (hd : decode T.2.1 pc = .ok (.ifCond .le off, 3)) (ht : (pc : Int) + off = (tgt : Int))
    (kt : x ≤ 0 → s_GL Ω T Φ tgt lv st h n kc ks) (kf : ¬ x ≤ 0 → s_GL Ω T Φ (pc + 3) lv st h n kc ks) : s_GL Ω T Φ pc lv (.int x :: st) h n kc ks := by
  intro p l e R s m args below meth c X ad0 n0 A mc ms Qm C O ad H locs cells slots ls S
  exact lv_if_le C.1 C.2.1 hd ht (fun q => kt q p l e R s m args below meth c X ad0 n0 A mc ms Qm C O ad H locs cells slots ls S) (fun q => kf q p l e R s m args below meth c X ad0 n0 A mc ms Qm C O ad H locs cells slots ls S)

theorem gl_icmp_eq {Ω : s_Om} {T : s_T} {Φ : s_P} {pc : Nat} {lv : s_V} {st : List Value} {h : s_H} {n kc ks : Nat} {x y : Int32} {off : Int} {tgt : Nat} (hd : decode T.2.1 pc = .ok (.if_icmp .eq off, 3)) (ht : (pc : Int) + off = (tgt : Int))
    (kt : x = y → s_GL Ω T Φ tgt lv st h n kc ks) (kf : ¬ x = y → s_GL Ω T Φ (pc + 3) lv st h n kc ks) : s_GL Ω T Φ pc lv (.int y :: .int x :: st) h n kc ks := by
  intro p l e R s m args below meth c X ad0 n0 A mc ms Qm C O ad H locs cells slots ls S
  exact lv_icmp_eq C.1 C.2.1 hd ht (fun q => kt q p l e R s m args below meth c X ad0 n0 A mc ms Qm C O ad H locs cells slots ls S) (fun q => kf q p l e R s m args below meth c X ad0 n0 A mc ms Qm C O ad H locs cells slots ls S)

theorem gl_icmp_ne {Ω : s_Om} {T : s_T} {Φ : s_P} {pc : Nat} {lv : s_V} {st : List Value} {h : s_H} {n kc ks : Nat} {x y : Int32} {off : Int} {tgt : Nat} (hd : decode T.2.1 pc = .ok (.if_icmp .ne off, 3)) (ht : (pc : Int) + off = (tgt : Int))
    (kt : ¬ x = y → s_GL Ω T Φ tgt lv st h n kc ks) (kf : x = y → s_GL Ω T Φ (pc + 3) lv st h n kc ks) : s_GL Ω T Φ pc lv (.int y :: .int x :: st) h n kc ks := by
  intro p l e R s m args below meth c X ad0 n0 A mc ms Qm C O ad H locs cells slots ls S
  exact lv_icmp_ne C.1 C.2.1 hd ht (fun q => kt q p l e R s m args below meth c X ad0 n0 A mc ms Qm C O ad H locs cells slots ls S) (fun q => kf q p l e R s m args below meth c X ad0 n0 A mc ms Qm C O ad H locs cells slots ls S)

theorem gl_icmp_gt {Ω : s_Om} {T : s_T} {Φ : s_P} {pc : Nat} {lv : s_V} {st : List Value} {h : s_H} {n kc ks : Nat} {x y : Int32} {off : Int} {tgt : Nat} (hd : decode T.2.1 pc = .ok (.if_icmp .gt off, 3)) (ht : (pc : Int) + off = (tgt : Int))
    (kt : y < x → s_GL Ω T Φ tgt lv st h n kc ks) (kf : ¬ y < x → s_GL Ω T Φ (pc + 3) lv st h n kc ks) : s_GL Ω T Φ pc lv (.int y :: .int x :: st) h n kc ks := by
  intro p l e R s m args below meth c X ad0 n0 A mc ms Qm C O ad H locs cells slots ls S
  exact lv_icmp_gt C.1 C.2.1 hd ht (fun q => kt q p l e R s m args below meth c X ad0 n0 A mc ms Qm C O ad H locs cells slots ls S) (fun q => kf q p l e R s m args below meth c X ad0 n0 A mc ms Qm C O ad H locs cells slots ls S)

theorem gl_icmp_le {Ω : s_Om} {T : s_T} {Φ : s_P} {pc : Nat} {lv : s_V} {st : List Value} {h : s_H} {n kc ks : Nat} {x y : Int32} {off : Int} {tgt : Nat} (hd : decode T.2.1 pc = .ok (.if_icmp .le off, 3)) (ht : (pc : Int) + off = (tgt : Int))
    (kt : x ≤ y → s_GL Ω T Φ tgt lv st h n kc ks) (kf : ¬ x ≤ y → s_GL Ω T Φ (pc + 3) lv st h n kc ks) : s_GL Ω T Φ pc lv (.int y :: .int x :: st) h n kc ks := by
  intro p l e R s m args below meth c X ad0 n0 A mc ms Qm C O ad H locs cells slots ls S
  exact lv_icmp_le C.1 C.2.1 hd ht (fun q => kt q p l e R s m args below meth c X ad0 n0 A mc ms Qm C O ad H locs cells slots ls S) (fun q => kf q p l e R s m args below meth c X ad0 n0 A mc ms Qm C O ad H locs cells slots ls S)

theorem gl_goto {Ω : s_Om} {T : s_T} {Φ : s_P} {pc : Nat} {lv : s_V} {st : List Value} {h : s_H} {n kc ks : Nat} {off : Int} {tgt : Nat} (hd : decode T.2.1 pc = .ok (.goto off, 3)) (ht : (pc : Int) + off = (tgt : Int)) (k : s_GL Ω T Φ tgt lv st h n kc ks) : s_GL Ω T Φ pc lv st h n kc ks := by
  intro p l e R s m args below meth c X ad0 n0 A mc ms Qm C O ad H locs cells slots ls S
  exact lv_goto C.1 C.2.1 hd ht (k p l e R s m args below meth c X ad0 n0 A mc ms Qm C O ad H locs cells slots ls S)

theorem gl_lald {Ω : s_Om} {T : s_T} {Φ : s_P} {pc : Nat} {lv : s_V} {st : List Value} {h : s_H} {n kc ks : Nat} {a len j : Nat} {x : Int32} {f : Nat → Int64} (hd : decode T.2.1 pc = .ok (.laload, 1)) (ho : h a = .inl (1, len, .inr (.inl f))) (ha : a < n) (hi : x = nI j) (hj : j < len) (hl : len < 2147483648)
    (k : s_GL Ω T Φ (pc + 1) lv (.long (f j) :: st) h n kc ks) : s_GL Ω T Φ pc lv (.int x :: .ref a :: st) h n kc ks := by
  intro p l e R s m args below meth c X ad0 n0 A mc ms Qm C O ad H locs cells slots ls S
  subst hi
  have hat := s_ws_at (dA := X.2) (ad := ad) (h := h) ha
  rw [ho] at hat
  refine va_lald C.1 C.2.1 C.2.2.2.2.2.2.2.2.2.2.1 S.2.2.2.1 a 1 (cA := X.2 1) (n := len) (f := f) hat rfl (vp_in_nI hj hl) hd ?_
  rw [nI_clamp (Nat.lt_trans hj hl)]
  exact k p l e R s m args below meth c X ad0 n0 A mc ms Qm C O ad H locs cells slots ls S

theorem gl_tabIn {Ω : s_Om} {T : s_T} {Φ : s_P} {pc : Nat} {lv : s_V} {st : List Value} {h : s_H} {n kc ks : Nat} {dflt lo hi : Int} {offs : Array Int} {len tgt : Nat} {x : Int32} {off : Int} (hd : decode T.2.1 pc = .ok (.tableswitch dflt lo hi offs, len)) (h1 : ¬ x.toInt < lo) (h2 : ¬ hi < x.toInt) (ho : offs[(x.toInt - lo).toNat]? = some off) (ht : (pc : Int) + off = (tgt : Int)) (k : s_GL Ω T Φ tgt lv st h n kc ks) : s_GL Ω T Φ pc lv (.int x :: st) h n kc ks := by
  intro p l e R s m args below meth c X ad0 n0 A mc ms Qm C O ad H locs cells slots ls S
  exact lv_tableIn C.1 C.2.1 hd h1 h2 ho ht (k p l e R s m args below meth c X ad0 n0 A mc ms Qm C O ad H locs cells slots ls S)

theorem gl_call {Ω : s_Om} {T : s_T} {Φ : s_P} {pc : Nat} {lv : s_V} {st : List Value} {h : s_H} {n kc ks : Nat} {rest : List Value} {Ψ : s_P} {mc' ms' : Nat} (hmc : mc' ≤ kc) (hms : ms' ≤ ks) (hsame : ∀ o h' n', Ψ o h' n' → n' = n)
    (hrun : ∀ (p : Program) (l : Launch) (e : Env) (R : Room) (s : State) (m : MethodId) (args : Array Value) (below : List Frame) (meth : Method) (c : Code) (X : va_G × (Nat → ClassId)) (ad0 : Nat → Nat) (n0 : Nat) (A : Nat → Prop) (mc ms : Nat) (Qm : State → Prop), s_C T Φ p l e R s m args below meth c X ad0 n0 A mc ms Qm → Ω s ad0 A → ∀ (ad : Nat → Nat) (H : Heap) (locs : List Loc) (cells slots : Nat) (ls : Array Slot), s_S T.2.2.1 s X ad0 n0 A mc ms lv h n kc ks ad H locs cells slots ls →
      ∃ a, vx_Run p l e R s m args below meth c H locs cells slots mc' ms' (F0 m pc ls (st.map (s_rv ad))) (rest.map (s_rv ad)) (s_Q X ad n h Ψ a) (s_XQ X ad n h Ψ) (va_A (s_ws X.2 ad n h) H.size))
    (kk : ∀ v h', Ψ (.inl v) h' n → s_GL Ω T Φ (pc + 3) lv (v.toList ++ rest) h' n (kc - mc') (ks - ms'))
    (kx : ∀ E h', Ψ (.inr E) h' n → s_GXL Ω T Φ pc lv E h' n (kc - mc') (ks - ms')) : s_GL Ω T Φ pc lv st h n kc ks := by
  intro p l e R s m args below meth c X ad0 n0 A mc ms Qm C O ad H locs cells slots ls S
  obtain ⟨a, hr⟩ := hrun p l e R s m args below meth c X ad0 n0 A mc ms Qm C O ad H locs cells slots ls S
  intro Tm hT Xs
  have hfr := s_free C S
  obtain ⟨hn0, hn9, hag, hP0, hD0, hS0, hc0, hs0, hL0⟩ := S
  rcases hr Tm hT Xs with ⟨v, st₀, t, T', L, q0, X', hL, e1, e2, ⟨⟨v', h', n', ad', hv, hΨ, hn, hn9', hag', hP, hD⟩, hF⟩, go⟩ | ⟨q, st₀, t, T', L, E, ce, q0, X', hL, e1, e2, ⟨⟨h', n', ad', hΨ, hn, hn9', hag', hP, hD⟩, hF⟩, hce, hcv, hcl, st'⟩
  · cases hsame _ _ _ hΨ
    have ea := hag'.same
    subst ea
    cases hv
    have hk := vx_keep (A0 := A) (H0 := s.heap) q0 e1 hS0 (A1 := va_A (s_ws X.2 ad' n h) st₀.heap.size) (by rw [q0]; exact fun q _ z => hfr q z) hfr hL hF
    have hD1 : va_D A (s_ws X.2 ad' n h') := hD.weaken (fun k q _ z => hfr q.1 (by rw [q0] at z; exact z))
    obtain ⟨t2, a2, b2⟩ := kk v' h' hΨ p l e R s m args below meth c X ad0 n0 A mc ms Qm C O ad' T'.heap (locs ++ L) (cells + mc') (slots + ms') ls ⟨hn0, hn9, hag, by rw [e1]; exact hP, hD1, hk.2.2, by omega, by omega, hL0⟩ T' rfl X'
    refine ⟨t2, go t2 ?_, b2⟩
    have e3 : (v'.toList ++ rest).map (s_rv ad') = (v'.map (s_rv ad')).toList ++ rest.map (s_rv ad') := by cases v' <;> simp
    rw [e3] at a2
    exact a2
  · cases hsame _ _ _ hΨ
    have ea := hag'.same
    subst ea
    have hk := vx_keep (A0 := A) (H0 := s.heap) q0 e1 hS0 (A1 := va_A (s_ws X.2 ad' n h) st₀.heap.size) (by rw [q0]; exact fun q _ z => hfr q z) hfr hL hF
    have hD1 : va_D A (s_ws X.2 ad' n h') := hD.weaken (fun k q _ z => hfr q.1 (by rw [q0] at z; exact z))
    obtain ⟨t2, a2, b2⟩ := kx E h' hΨ p l e R s m args below meth c X ad0 n0 A mc ms Qm C O (rest.map (s_rv ad')) q ce ad' T'.heap (locs ++ L) (cells + mc') (slots + ms') ls ⟨hn0, hn9, hag, by rw [e1]; exact hP, hD1, hk.2.2, by omega, by omega, hL0⟩ (by rw [e1]; exact hce) hcv hcl T' rfl X'
    exact ⟨t2, st'.trans a2, b2⟩

theorem gl_callV {Ω : s_Om} {T : s_T} {Φ : s_P} {pc : Nat} {lv : s_V} {st : List Value} {h : s_H} {n kc ks : Nat} {T' : s_T} {as rest : List Value} {b : Nat} {Ψ : s_P} {mc' ms' idx na : Nat} (M : s_Mt T' mc' ms' (.ref b :: as) h n Ψ) (hd : decode T.2.1 pc = .ok (.invokevirtual idx, 3)) (cm : s_cm T' na) (hh : T'.2.2.2.2.1 = []) (hl : Cond.methodLink T.1.cls idx T'.1 ∈ s_WL) (hi : Cond.instanceMethod T'.1 ∈ s_WL) (hse : Cond.selects T'.1.cls T'.1 T'.1 ∈ s_WL) (hdep : T'.2.2.2.2.2 + 1 ≤ T.2.2.2.2.2) {ci : Nat} {q9 : vw_C} {fs : List Value} (hb : b < n) (hob : h b = .inr (ci, fs)) (hci : vwCl[ci]? = some q9) (hq9 : q9.1 = T'.1.cls) (hst : st = as.reverse ++ .ref b :: rest) (hna : as.length = na) (hc : (rest.map fun v => v.category).sum ≤ 8) (hmc : mc' ≤ kc) (hms : ms' ≤ ks) (hsame : ∀ o h' n', Ψ o h' n' → n' = n)
    (kk : ∀ v h', Ψ (.inl v) h' n → s_GL Ω T Φ (pc + 3) lv (v.toList ++ rest) h' n (kc - mc') (ks - ms'))
    (kx : ∀ E h', Ψ (.inr E) h' n → s_GXL Ω T Φ pc lv E h' n (kc - mc') (ks - ms')) : s_GL Ω T Φ pc lv st h n kc ks := by
  refine gl_call (rest := rest) hmc hms hsame ?_ kk kx
  intro p l e R s m args below meth c X ad0 n0 A mc ms Qm C O ad H locs cells slots ls S
  have hM := M l C.2.2.2.2.2.2.2.2.1 X ad H.size
  have hR := s_room (mc' := mc') (ms' := ms') C.2.2.2.2.2.2.2.2.2.2.2.2.2.1 hdep cm.2.2.1
  have hat := s_ws_at (dA := X.2) (ad := ad) (h := h) hb
  rw [hob] at hat
  have hrc := va_recv (fs := fs.map (s_rv ad)) C.2.2.2.2.2.2.2.2.2.2.1 S.2.2.2.1 hci hat
  rw [hq9] at hrc
  have hpv : PreV s H T'.1.cls (ad b) (va_Pc ((.ref b :: as).map (s_rv ad)) (fun U => U.heap.size = H.size ∧ s_PC X ad n h U)) (as.map (s_rv ad)) := ⟨(s_pre C S (.ref b :: as)).1, hrc, (s_pre C S (.ref b :: as)).2⟩
  exact ⟨_, vx_runV ⟨C.1, C.2.1, C.2.2.1, C.2.2.2.2.1, C.2.2.2.2.2.1⟩ hM (cwV (bytes := T'.2.1) (maxL := T'.2.2.1) (ret := T'.2.2.2.1) (ws' := s_WL) na C.2.2.2.2.2.1 (s_good (s_inV cm hl hi hse)) (by rw [s_hd_of hh]) rfl rfl ⟨rfl, cm.2.1⟩ hR) hpv rfl (by rw [List.length_map]; exact hna) S.2.2.2.2.2.2.2.2.1 (by rw [hst]; simp [s_rv]) (lv_room (s_cats hc)) hd ⟨Nat.le_trans (Nat.add_le_add_left hmc _) (Nat.le_trans S.2.2.2.2.2.2.1 C.2.2.2.2.2.2.2.2.2.2.2.2.2.1.2.2.1), Nat.le_trans (Nat.add_le_add_left hms _) (Nat.le_trans S.2.2.2.2.2.2.2.1 C.2.2.2.2.2.2.2.2.2.2.2.2.2.1.2.2.2)⟩⟩

theorem gl_callV_e {Ω : s_Om} {T : s_T} {Φ : s_P} {pc : Nat} {lv : s_V} {st : List Value} {h : s_H} {n kc ks : Nat} {T' : s_T} {as rest : List Value} {b : Nat} {idx na : Nat} {r : Option Value} {h1 : s_H} (M : s_Mt T' 0 0 (.ref b :: as) h n (s_re r h1 n)) (hd : decode T.2.1 pc = .ok (.invokevirtual idx, 3)) (cm : s_cm T' na) (hh : T'.2.2.2.2.1 = []) (hl : Cond.methodLink T.1.cls idx T'.1 ∈ s_WL) (hi : Cond.instanceMethod T'.1 ∈ s_WL) (hse : Cond.selects T'.1.cls T'.1 T'.1 ∈ s_WL) (hdep : T'.2.2.2.2.2 + 1 ≤ T.2.2.2.2.2) {ci : Nat} {q9 : vw_C} {fs : List Value} (hb : b < n) (hob : h b = .inr (ci, fs)) (hci : vwCl[ci]? = some q9) (hq9 : q9.1 = T'.1.cls) (hst : st = as.reverse ++ .ref b :: rest) (hna : as.length = na) (hc : (rest.map fun v => v.category).sum ≤ 8)
    (kk : s_GL Ω T Φ (pc + 3) lv (r.toList ++ rest) h1 n kc ks) : s_GL Ω T Φ pc lv st h n kc ks := by
  refine gl_callV M hd cm hh hl hi hse hdep hb hob hci hq9 hst hna hc (Nat.zero_le _) (Nat.zero_le _) s_re.same (fun v h' q => ?_) (fun E h' q => absurd q.1 (by intro z; cases z))
  obtain ⟨q1, q2, -⟩ := q
  cases q1
  rw [q2]
  exact kk

theorem gl_callV_p {Ω : s_Om} {T : s_T} {Φ : s_P} {pc : Nat} {lv : s_V} {st : List Value} {h : s_H} {n kc ks : Nat} {T' : s_T} {as rest : List Value} {b : Nat} {idx na : Nat} {P : Option Value → s_H → Prop} (M : s_Mt T' 0 0 (.ref b :: as) h n (s_rp n P s_no)) (hd : decode T.2.1 pc = .ok (.invokevirtual idx, 3)) (cm : s_cm T' na) (hh : T'.2.2.2.2.1 = []) (hl : Cond.methodLink T.1.cls idx T'.1 ∈ s_WL) (hi : Cond.instanceMethod T'.1 ∈ s_WL) (hse : Cond.selects T'.1.cls T'.1 T'.1 ∈ s_WL) (hdep : T'.2.2.2.2.2 + 1 ≤ T.2.2.2.2.2) {ci : Nat} {q9 : vw_C} {fs : List Value} (hb : b < n) (hob : h b = .inr (ci, fs)) (hci : vwCl[ci]? = some q9) (hq9 : q9.1 = T'.1.cls) (hst : st = as.reverse ++ .ref b :: rest) (hna : as.length = na) (hc : (rest.map fun v => v.category).sum ≤ 8)
    (kk : ∀ v h', P v h' → s_GL Ω T Φ (pc + 3) lv (v.toList ++ rest) h' n kc ks) : s_GL Ω T Φ pc lv st h n kc ks := by
  refine gl_callV M hd cm hh hl hi hse hdep hb hob hci hq9 hst hna hc (Nat.zero_le _) (Nat.zero_le _) s_rp.same (fun v h' q => ?_) (fun E h' q => absurd q.2 id)
  exact kk v h' q.2

theorem gl_callN {Ω : s_Om} {T : s_T} {Φ : s_P} {pc : Nat} {lv : s_V} {st : List Value} {h : s_H} {n kc ks : Nat} {rest : List Value} {Ψ : s_P} {mc' ms' : Nat} (hmc : mc' ≤ kc) (hms : ms' ≤ ks) (hx : ∀ E h' n', ¬ Ψ (.inr E) h' n') (hlv : ∀ i v, lv i = some v → s_vo n v) (hre : ∀ v ∈ rest, s_vo n v)
    (hrun : ∀ (p : Program) (l : Launch) (e : Env) (R : Room) (s : State) (m : MethodId) (args : Array Value) (below : List Frame) (meth : Method) (c : Code) (X : va_G × (Nat → ClassId)) (ad0 : Nat → Nat) (n0 : Nat) (A : Nat → Prop) (mc ms : Nat) (Qm : State → Prop), s_C T Φ p l e R s m args below meth c X ad0 n0 A mc ms Qm → Ω s ad0 A → ∀ (ad : Nat → Nat) (H : Heap) (locs : List Loc) (cells slots : Nat) (ls : Array Slot), s_S T.2.2.1 s X ad0 n0 A mc ms lv h n kc ks ad H locs cells slots ls →
      ∃ a, vx_Run p l e R s m args below meth c H locs cells slots mc' ms' (F0 m pc ls (st.map (s_rv ad))) (rest.map (s_rv ad)) (s_Q X ad n h Ψ a) (s_XQ X ad n h Ψ) (va_A (s_ws X.2 ad n h) H.size))
    (kk : ∀ v h' n', Ψ (.inl v) h' n' → n ≤ n' → s_GL Ω T Φ (pc + 3) lv (v.toList ++ rest) h' n' (kc - mc') (ks - ms')) : s_GL Ω T Φ pc lv st h n kc ks := by
  intro p l e R s m args below meth c X ad0 n0 A mc ms Qm C O ad H locs cells slots ls S
  obtain ⟨a, hr⟩ := hrun p l e R s m args below meth c X ad0 n0 A mc ms Qm C O ad H locs cells slots ls S
  intro Tm hT Xs
  have hfr := s_free C S
  obtain ⟨hn0, hn9, hag, hP0, hD0, hS0, hc0, hs0, hL0⟩ := S
  rcases hr Tm hT Xs with ⟨v, st₀, t, T', L, q0, X', hL, e1, e2, ⟨⟨v', h', n', ad', hv, hΨ, hn, hn9', hag', hP, hD⟩, hF⟩, go⟩ | ⟨q, st₀, t, T', L, E, ce, q0, X', hL, e1, e2, ⟨⟨h', n', ad', hΨ, hn, hn9', hag', hP, hD⟩, hF⟩, hce, hcv, hcl, st'⟩
  · cases hv
    have hk := vx_keep (A0 := A) (H0 := s.heap) q0 e1 hS0 (A1 := va_A (s_ws X.2 ad n h) st₀.heap.size) (by rw [q0]; exact fun q _ z => hfr q z) hfr hL hF
    have hD1 : va_D A (s_ws X.2 ad' n' h') := hD.weaken (fun k q _ z => hfr q.1 (by rw [q0] at z; exact z))
    obtain ⟨t2, a2, b2⟩ := kk v' h' n' hΨ hn p l e R s m args below meth c X ad0 n0 A mc ms Qm C O ad' T'.heap (locs ++ L) (cells + mc') (slots + ms') ls ⟨Nat.le_trans hn0 hn, hn9', hag.trans hn0 hn hag', by rw [e1]; exact hP, hD1, hk.2.2, by omega, by omega, hL0.ag hag' hn9' hlv⟩ T' rfl X'
    refine ⟨t2, go t2 ?_, b2⟩
    have e3 : (v'.toList ++ rest).map (s_rv ad') = (v'.map (s_rv ad')).toList ++ rest.map (s_rv ad) := by
      rw [List.map_append, s_st_ag hag' hn9' hre]
      cases v' <;> rfl
    rw [e3] at a2
    exact a2
  · exact absurd hΨ (hx _ _ _)

theorem gl_callIg {Ω : s_Om} {T : s_T} {Φ : s_P} {pc : Nat} {lv : s_V} {st : List Value} {h : s_H} {n kc ks : Nat} {T' : s_T} {as rest : List Value} {b : Nat} {Ψ : s_P} {mc' ms' idx na : Nat} (M : s_Mt T' mc' ms' (.ref b :: as) h n Ψ) (hd : decode T.2.1 pc = .ok (.invokespecial idx, 3)) (cm : s_cm T' na) (hh : T'.2.2.2.2.1 = []) (hl : Cond.methodLink T.1.cls idx T'.1 ∈ s_WL) (hi : Cond.instanceMethod T'.1 ∈ s_WL) (hin : T'.1.name = "<init>") (hre : T'.2.2.2.1 = none) (hdep : T'.2.2.2.2.2 + 1 ≤ T.2.2.2.2.2) (hst : st = as.reverse ++ .ref b :: rest) (hna : as.length = na) (hc : (rest.map fun v => v.category).sum ≤ 8) (hmc : mc' ≤ kc) (hms : ms' ≤ ks) (hx : ∀ E h' n', ¬ Ψ (.inr E) h' n') (hlv : ∀ i v, lv i = some v → s_vo n v) (hrs : ∀ v ∈ rest, s_vo n v)
    (kk : ∀ v h' n', Ψ (.inl v) h' n' → n ≤ n' → s_GL Ω T Φ (pc + 3) lv (v.toList ++ rest) h' n' (kc - mc') (ks - ms')) : s_GL Ω T Φ pc lv st h n kc ks := by
  refine gl_callN (rest := rest) hmc hms hx hlv hrs ?_ kk
  intro p l e R s m args below meth c X ad0 n0 A mc ms Qm C O ad H locs cells slots ls S
  have hM := M l C.2.2.2.2.2.2.2.2.1 X ad H.size
  have hR := s_room (mc' := mc') (ms' := ms') C.2.2.2.2.2.2.2.2.2.2.2.2.2.1 hdep cm.2.2.1
  exact ⟨_, vx_runI ⟨C.1, C.2.1, C.2.2.1, C.2.2.2.2.1, C.2.2.2.2.2.1⟩ hM (cwI (bytes := T'.2.1) (maxL := T'.2.2.1) (ws' := s_WL) na C.2.2.2.2.2.1 (s_good (s_in2 cm.1)) (by rw [s_hd_of hh, hre]) rfl rfl (C.2.2.2.2.2.1 _ cm.2.2.2) (C.2.2.2.2.2.1 _ hl) (C.2.2.2.2.2.1 _ hi) hin cm.2.1 hR) (s_pre C S (.ref b :: as)) rfl (by rw [List.length_map]; exact hna) S.2.2.2.2.2.2.2.2.1 (by rw [hst]; simp [s_rv]) (lv_room (s_cats hc)) hd ⟨Nat.le_trans (Nat.add_le_add_left hmc _) (Nat.le_trans S.2.2.2.2.2.2.1 C.2.2.2.2.2.2.2.2.2.2.2.2.2.1.2.2.1), Nat.le_trans (Nat.add_le_add_left hms _) (Nat.le_trans S.2.2.2.2.2.2.2.1 C.2.2.2.2.2.2.2.2.2.2.2.2.2.1.2.2.2)⟩⟩

theorem gl_newaL {Ω : s_Om} {T : s_T} {Φ : s_P} {pc : Nat} {lv : s_V} {st : List Value} {h : s_H} {n kc ks N' : Nat} {x : Int32} (hd : decode T.2.1 pc = .ok (.newarray .long, 2)) (hw : Cond.arrayClass .long ∈ s_WL) (hx : x = nI N') (hN : N' ≤ 10000) (hn9 : n + 1 ≤ s_big) (hcl : s_cl h n) (hlv : ∀ i v, lv i = some v → s_vo n v) (hst : ∀ v ∈ st, s_vo n v) (hc : 1 ≤ kc) (hs : N' ≤ ks)
    (k : ∀ h1, h1 = s_up h n (.inl (1, N', .inr (.inl (fun _ => 0)))) → s_cl h1 (n + 1) → s_GL Ω T Φ (pc + 2) lv (.ref n :: st) h1 (n + 1) (kc - 1) (ks - N')) : s_GL Ω T Φ pc lv (.int x :: st) h n kc ks := by
  intro p l e R s m args below meth c X ad0 n0 A mc ms Qm C O ad H locs cells slots ls S
  obtain ⟨hn0, hn9', hag, hP0, hD0, hS0, hc0, hs0, hL0⟩ := S
  subst hx
  refine va_newa (atype := .long) (N' := N') (a0 := (N', .inr (.inl (fun _ => 0)))) C.1 C.2.1 (C.2.2.2.2.2.1 _ hw) rfl C.2.2.2.2.2.2.2.2.2.2.1 hP0 hD0 hS0 C.2.2.2.2.2.2.2.2.2.1 (fun cA => rfl) (Int32.not_lt.mpr (nI_le (a := 0) (by omega) (by omega))) (nI_clamp (by omega)) (by show N' * 8 ≤ _; omega) (by have := C.2.2.2.2.2.2.2.2.2.2.2.2.2.1.2.2.1; omega) (by have := C.2.2.2.2.2.2.2.2.2.2.2.2.2.1.2.2.2; omega) hd (fun q cA H1 hK1 hP1 hD1 hS1 => ?_)
  have eA : cA = X.2 1 := s_dA (i := 1) hK1 rfl (fun u cX => Iff.rfl)
  subst eA
  have ha : s_ag n (n + 1) ad (fun k => if k = n then q else ad k) := fun k hk => if_neg (by omega)
  have eW := s_ws_new (dA := X.2) (ad := ad) (q := q) (o := .inl (1, N', .inr (.inl (fun _ => 0)))) hn9 hcl trivial
  have hcl1 : s_cl (s_up h n (.inl (1, N', .inr (.inl (fun _ => 0))))) (n + 1) := hcl.up rfl (Nat.le_succ n) trivial (fun j a b => by omega)
  have z := k _ rfl hcl1 p l e R s m args below meth c X ad0 n0 A mc ms Qm C O (fun k => if k = n then q else ad k) H1 locs (cells + 1) (slots + N') ls ⟨by omega, hn9, hag.trans hn0 (Nat.le_succ n) ha, by rw [eW]; exact hP1, by rw [eW]; exact hD1, hS1, by omega, by omega, hL0.ag ha hn9 hlv⟩
  have e2 : (Value.ref n :: st).map (s_rv (fun k => if k = n then q else ad k)) = .ref q :: st.map (s_rv ad) := by
    rw [List.map_cons, s_st_ag ha hn9 hst]
    show Value.ref (if n = n then q else ad n) :: _ = _
    rw [if_pos rfl]
  rw [e2] at z
  exact z

theorem gl_new {Ω : s_Om} {T : s_T} {Φ : s_P} {pc : Nat} {lv : s_V} {st : List Value} {h : s_H} {n kc ks : Nat} {idx ci : Nat} {q9 : vw_C} {fs : List Value} (ty : Nat → FieldType) (hd : decode T.2.1 pc = .ok (.new idx, 3)) (hci : vwCl[ci]? = some q9) (hws : ∀ w ∈ u_ws q9.1 q9.2.1 q9.2.2, w ∈ s_WL) (hty : ∀ k, k < q9.2.2 → parseFieldDescriptor (q9.2.1 k).2.2.1 = some (ty k)) (hcl9 : Cond.classLink T.1.cls idx q9.1 ∈ s_WL) (hinst : Cond.instantiable q9.1 q9.2.2 ∈ s_WL) (hini : Cond.initialized q9.1 ∈ s_WL) (hfs : ∀ j, j < q9.2.2 → defaultValue (ty j) = vp_V fs j) (hvo : ∀ v ∈ fs, s_vo n v) (hn9 : n + 1 ≤ s_big) (hcl : s_cl h n) (hlv : ∀ i v, lv i = some v → s_vo n v) (hst : ∀ v ∈ st, s_vo n v) (hc : 1 ≤ kc) (hs : q9.2.2 ≤ ks)
    (k : ∀ h1, h1 = s_up h n (.inr (ci, fs)) → s_cl h1 (n + 1) → s_GL Ω T Φ (pc + 3) lv (.ref n :: st) h1 (n + 1) (kc - 1) (ks - q9.2.2)) : s_GL Ω T Φ pc lv st h n kc ks := by
  intro p l e R s m args below meth c X ad0 n0 A mc ms Qm C O ad H locs cells slots ls S
  obtain ⟨hn0, hn9', hag, hP0, hD0, hS0, hc0, hs0, hL0⟩ := S
  have hfsm : fs.map (s_rv ad) = fs.map (s_rv ad) := rfl
  have hfv : ∀ j, j < q9.2.2 → defaultValue (ty j) = vp_V (fs.map (s_rv ad)) j := fun j hj => by
    have h1 := hfs j hj
    rw [h1]
    show fs.getD j .null = (fs.map (s_rv ad)).getD j .null
    rw [List.getD_eq_getElem?_getD, List.getD_eq_getElem?_getD, List.getElem?_map]
    cases hg : fs[j]? with
    | none => rfl
    | some v =>
      have h2 : defaultValue (ty j) = v := by
        rw [h1]
        show fs.getD j .null = v
        rw [List.getD_eq_getElem?_getD, hg]
        rfl
      show v = s_rv ad v
      rw [← h2]
      cases ty j <;> rfl
  refine va_new (Ts := s_WL) (C := q9.1) (T := q9.2.1) (N := q9.2.2) (ci := ci) C.1 C.2.1 C.2.2.2.2.2.1 hws ty hty C.2.2.2.2.1 (C.2.2.2.2.2.1 _ hcl9) (C.2.2.2.2.2.1 _ hinst) (C.2.2.2.2.2.1 _ hini) C.2.2.2.2.2.2.2.2.2.2.1 hP0 hD0 hS0 C.2.2.2.2.2.2.2.2.2.1 hci hfv (by have := C.2.2.2.2.2.2.2.2.2.2.2.2.2.1.2.2.1; omega) (by have := C.2.2.2.2.2.2.2.2.2.2.2.2.2.1.2.2.2; omega) hd (fun q H1 hP1 hD1 hS1 => ?_)
  have ha : s_ag n (n + 1) ad (fun k => if k = n then q else ad k) := fun k hk => if_neg (by omega)
  have eW := s_ws_new (dA := X.2) (ad := ad) (q := q) (o := .inr (ci, fs)) hn9 hcl hvo
  have hcl1 : s_cl (s_up h n (.inr (ci, fs))) (n + 1) := hcl.up rfl (Nat.le_succ n) (fun v hv => (hvo v hv).le (Nat.le_succ n)) (fun j a b => by omega)
  have z := k _ rfl hcl1 p l e R s m args below meth c X ad0 n0 A mc ms Qm C O (fun k => if k = n then q else ad k) H1 locs (cells + 1) (slots + q9.2.2) ls ⟨by omega, hn9, hag.trans hn0 (Nat.le_succ n) ha, by rw [eW]; exact hP1, by rw [eW]; exact hD1, hS1, by omega, by omega, hL0.ag ha hn9 hlv⟩
  have e2 : (Value.ref n :: st).map (s_rv (fun k => if k = n then q else ad k)) = .ref q :: st.map (s_rv ad) := by
    rw [List.map_cons, s_st_ag ha hn9 hst]
    show Value.ref (if n = n then q else ad n) :: _ = _
    rw [if_pos rfl]
  rw [e2] at z
  exact z

theorem gl_new' {Ω : s_Om} {T : s_T} {Φ : s_P} {pc : Nat} {lv : s_V} {st : List Value} {h : s_H} {n kc ks : Nat} {idx ci : Nat} {C : String} {T9 : u_T} {N : Nat} {fs : List Value} (ty : Nat → FieldType) (hd : decode T.2.1 pc = .ok (.new idx, 3)) (hci : vwCl[ci]? = some (C, T9, N)) (hws : ∀ w ∈ u_ws C T9 N, w ∈ s_WL) (hty : ∀ k, k < N → parseFieldDescriptor (T9 k).2.2.1 = some (ty k)) (hcl9 : Cond.classLink T.1.cls idx C ∈ s_WL) (hinst : Cond.instantiable C N ∈ s_WL) (hini : Cond.initialized C ∈ s_WL) (hfs : ∀ j, j < N → defaultValue (ty j) = vp_V fs j) (hvo : ∀ v ∈ fs, s_vo n v) (hn9 : n + 1 ≤ s_big) (hcl : s_cl h n) (hlv : ∀ i v, lv i = some v → s_vo n v) (hst : ∀ v ∈ st, s_vo n v) (hc : 1 ≤ kc) (hs : N ≤ ks)
    (k : ∀ h1, h1 = s_up h n (.inr (ci, fs)) → s_cl h1 (n + 1) → s_GL Ω T Φ (pc + 3) lv (.ref n :: st) h1 (n + 1) (kc - 1) (ks - N)) : s_GL Ω T Φ pc lv st h n kc ks := gl_new (q9 := (C, T9, N)) ty hd hci hws hty hcl9 hinst hini hfs hvo hn9 hcl hlv hst hc hs k

theorem gl_ireturn {Ω : s_Om} {T : s_T} {Φ : s_P} {pc : Nat} {lv : s_V} {h : s_H} {n kc ks : Nat} {x : Int32} (hd : decode T.2.1 pc = .ok (.ireturn, 1)) (ht : T.2.2.2.1 = some .int) (hq : Φ (.inl (some (.int x))) h n) : s_GL Ω T Φ pc lv [.int x] h n kc ks := gl_ret (some (.int x)) ⟨hd, .int, ht, rfl⟩ hq

theorem gl_zreturn {Ω : s_Om} {T : s_T} {Φ : s_P} {pc : Nat} {lv : s_V} {h : s_H} {n kc ks : Nat} {x : Int32} (hd : decode T.2.1 pc = .ok (.ireturn, 1)) (ht : T.2.2.2.1 = some .boolean) (hx : x = 0 ∨ x = 1) (hq : Φ (.inl (some (.int x))) h n) : s_GL Ω T Φ pc lv [.int x] h n kc ks := gl_ret (some (.int x)) ⟨hd, .boolean, ht, by rcases hx with rfl | rfl <;> rfl⟩ hq

theorem gl_lv {Ω : s_Om} {T : s_T} {Φ : s_P} {pc : Nat} {l : List (Nat × Value)} {lv : s_V} {st : List Value} {h : s_H} {n kc ks : Nat} (k : s_GL Ω T Φ pc (s_lvs l) st h n kc ks) (hs : s_all l lv) : s_GL Ω T Φ pc lv st h n kc ks := gl_sub k (s_all_sub l lv hs) (Nat.le_refl _) (Nat.le_refl _)

/-- the script: L ints xs, at the number s_big + 500 -/
def s_Os (L : Nat) (xs : Nat → Int32) : s_Om := fun s ad0 A => va_X (ad0 (s_big + 500)) L xs s s.heap ∧ ad0 (s_big + 500) < s.heap.size ∧ ¬ A (ad0 (s_big + 500))
theorem gl_slen {L : Nat} {xs : Nat → Int32} {T : s_T} {Φ : s_P} {pc : Nat} {lv : s_V} {st : List Value} {h : s_H} {n kc ks : Nat} (hd : decode T.2.1 pc = .ok (.arraylength, 1))
    (k : s_GL (s_Os L xs) T Φ (pc + 1) lv (.int (nI L) :: st) h n kc ks) : s_GL (s_Os L xs) T Φ pc lv (.ref (s_big + 500) :: st) h n kc ks := by
  intro p l e R s m args below meth c X ad0 n0 A mc ms Qm C O ad H locs cells slots ls S
  have ea : ad (s_big + 500) = ad0 (s_big + 500) := S.2.2.1 _ (Or.inr (Nat.le_trans S.2.1 (Nat.le_add_right _ _)))
  have z := k p l e R s m args below meth c X ad0 n0 A mc ms Qm C O ad H locs cells slots ls S
  show W p l e R s m args below meth c H locs cells slots Qm (F0 m pc ls (.ref (ad (s_big + 500)) :: st.map (s_rv ad)))
  rw [ea]
  exact va_slen C.1 C.2.1 O.1 O.2.1 O.2.2 S.2.2.2.2.2.1 hd z
theorem gl_sld {L : Nat} {xs : Nat → Int32} {T : s_T} {Φ : s_P} {pc : Nat} {lv : s_V} {st : List Value} {h : s_H} {n kc ks j : Nat} {x : Int32} (hL : L ≤ 3072) (hd : decode T.2.1 pc = .ok (.iaload, 1)) (hi : x = nI j) (hj : j < L)
    (k : s_GL (s_Os L xs) T Φ (pc + 1) lv (.int (xs j) :: st) h n kc ks) : s_GL (s_Os L xs) T Φ pc lv (.int x :: .ref (s_big + 500) :: st) h n kc ks := by
  intro p l e R s m args below meth c X ad0 n0 A mc ms Qm C O ad H locs cells slots ls S
  subst hi
  have ea : ad (s_big + 500) = ad0 (s_big + 500) := S.2.2.1 _ (Or.inr (Nat.le_trans S.2.1 (Nat.le_add_right _ _)))
  have z := k p l e R s m args below meth c X ad0 n0 A mc ms Qm C O ad H locs cells slots ls S
  show W p l e R s m args below meth c H locs cells slots Qm (F0 m pc ls (.int (nI j) :: .ref (ad (s_big + 500)) :: st.map (s_rv ad)))
  rw [ea]
  refine va_sld C.1 C.2.1 O.1 O.2.1 O.2.2 S.2.2.2.2.2.1 (vp_in_nI hj (by omega)) hd ?_
  rw [nI_clamp (by omega)]
  exact z
/-- a call of a static method with handlers that throws nothing -/
theorem gl_callSH {Ω : s_Om} {T : s_T} {Φ : s_P} {pc : Nat} {lv : s_V} {st : List Value} {h : s_H} {n kc ks : Nat} {T' : s_T} {as rest : List Value} {mc' ms' idx na : Nat} {P : Option Value → s_H → Prop} {x9 : Nat × Nat × Nat × Nat} {xs9 : List (Nat × Nat × Nat × Nat)} (M : s_Mt T' mc' ms' as h n (s_rp n P s_no)) (hd : decode T.2.1 pc = .ok (.invokestatic idx, 3)) (cm : s_cm T' na) (hh : T'.2.2.2.2.1 = x9 :: xs9) (hl : Cond.methodLink T.1.cls idx T'.1 ∈ s_WL) (hs : Cond.static T'.1 ∈ s_WL) (hdep : T'.2.2.2.2.2 + 1 ≤ T.2.2.2.2.2) (hst : st = as.reverse ++ rest) (hna : as.length = na) (hc : (rest.map fun v => v.category).sum ≤ 8) (hmc : mc' ≤ kc) (hms : ms' ≤ ks)
    (kk : ∀ v h', P v h' → s_GL Ω T Φ (pc + 3) lv (v.toList ++ rest) h' n (kc - mc') (ks - ms')) : s_GL Ω T Φ pc lv st h n kc ks := by
  refine gl_call (rest := rest) hmc hms s_rp.same ?_ (fun v h' q => kk v h' q.2) (fun E h' q => absurd q.2 id)
  intro p l e R s m args below meth c X ad0 n0 A mc ms Qm C O ad H locs cells slots ls S
  have hM := M l C.2.2.2.2.2.2.2.2.1 X ad H.size
  have hR := s_room (mc' := mc') (ms' := ms') C.2.2.2.2.2.2.2.2.2.2.2.2.2.1 hdep cm.2.2.1
  have hhd : s_hd T' = Cond.codeWith T'.1 T'.2.1 T'.2.2.1 T'.2.2.2.1 (x9 :: xs9) := by simp only [s_hd, hh]
  exact ⟨_, vx_runSX ⟨C.1, C.2.1, C.2.2.1, C.2.2.2.2.1, C.2.2.2.2.2.1⟩ hM (vx_cwSW (bytes := T'.2.1) (maxL := T'.2.2.1) (ret := T'.2.2.2.1) (ws' := s_WL) na C.2.2.2.2.2.1 (s_good (s_inS cm hl hs)) (by rw [hhd]) rfl rfl cm.2.1 hR) (s_pre C S as) rfl (by rw [List.length_map]; exact hna) S.2.2.2.2.2.2.2.2.1 (by rw [hst]; simp) (lv_room (s_cats hc)) hd ⟨Nat.le_trans (Nat.add_le_add_left hmc _) (Nat.le_trans S.2.2.2.2.2.2.1 C.2.2.2.2.2.2.2.2.2.2.2.2.2.1.2.2.1), Nat.le_trans (Nat.add_le_add_left hms _) (Nat.le_trans S.2.2.2.2.2.2.2.1 C.2.2.2.2.2.2.2.2.2.2.2.2.2.1.2.2.2)⟩⟩
