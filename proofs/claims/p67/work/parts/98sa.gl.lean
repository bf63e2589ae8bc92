/-! THE LAW'S JUDGEMENT: s_G with a fact Ω of what lies outside (the script), and its rows (by text change, wip/src/law4.py) -/
abbrev s_Om : Type := State → (Nat → Nat) → (Nat → Prop) → Prop
def s_GL (Ω : s_Om) (T : s_T) (Φ : s_P) (pc : Nat) (lv : s_V) (st : List Value) (h : s_H) (n kc ks : Nat) : Prop :=
  ∀ (p : Program) (l : Launch) (e : Env) (R : Room) (s : State) (m : MethodId) (args : Array Value) (below : List Frame) (meth : Method) (c : Code) (X : va_G × (Nat → ClassId)) (ad0 : Nat → Nat) (n0 : Nat) (A : Nat → Prop) (mc ms : Nat) (Qm : State → Prop),
    s_C T Φ p l e R s m args below meth c X ad0 n0 A mc ms Qm → Ω s ad0 A → ∀ (ad : Nat → Nat) (H : Heap) (locs : List Loc) (cells slots : Nat) (ls : Array Slot), s_S T.2.2.1 s X ad0 n0 A mc ms lv h n kc ks ad H locs cells slots ls →
    W p l e R s m args below meth c H locs cells slots Qm (F0 m pc ls (st.map (s_rv ad)))
def s_GXL (Ω : s_Om) (T : s_T) (Φ : s_P) (pc : Nat) (lv : s_V) (E : String) (h : s_H) (n kc ks : Nat) : Prop :=
  ∀ (p : Program) (l : Launch) (e : Env) (R : Room) (s : State) (m : MethodId) (args : Array Value) (below : List Frame) (meth : Method) (c : Code) (X : va_G × (Nat → ClassId)) (ad0 : Nat → Nat) (n0 : Nat) (A : Nat → Prop) (mc ms : Nat) (Qm : State → Prop),
    s_C T Φ p l e R s m args below meth c X ad0 n0 A mc ms Qm → Ω s ad0 A → ∀ (rest : List Value) (q : Nat) (ce : Cell) (ad : Nat → Nat) (H : Heap) (locs : List Loc) (cells slots : Nat) (ls : Array Slot), s_S T.2.2.1 s X ad0 n0 A mc ms lv h n kc ks ad H locs cells slots ls →
    H[q]? = some ce → ce.vm = .none → s.vm.findClass E = some ce.cls → vx_W p l e R s m args below meth c H locs cells slots Qm (F0 m pc ls rest) q

theorem gl_sub {Ω : s_Om} {T : s_T} {Φ : s_P} {pc : Nat} {lv lv' : s_V} {st : List Value} {h : s_H} {n kc ks kc' ks' : Nat} (k : s_GL Ω T Φ pc lv' st h n kc' ks') (hs : ∀ i v, lv' i = some v → lv i = some v) (hc : kc' ≤ kc) (hk : ks' ≤ ks) : s_GL Ω T Φ pc lv st h n kc ks := by
  intro p l e R s m args below meth c X ad0 n0 A mc ms Qm C O ad H locs cells slots ls S
  exact k p l e R s m args below meth c X ad0 n0 A mc ms Qm C O ad H locs cells slots ls (S.sub hs hc hk)

theorem gl_ret {Ω : s_Om} {T : s_T} {Φ : s_P} {pc : Nat} {lv : s_V} {h : s_H} {n kc ks : Nat} (v : Option Value) (hr : s_rt T v pc) (hq : Φ (.inl v) h n) : s_GL Ω T Φ pc lv v.toList h n kc ks := by
  intro p l e R s m args below meth c X ad0 n0 A mc ms Qm C O ad H locs cells slots ls S
  have hEr := C.2.2.2.2.2.2.2.2.2.2.2.2.2.2.1
  have h1 := hEr v h n pc ad H locs cells slots ls hr hq (S.sub (fun i v q => by cases q) (Nat.zero_le _) (Nat.zero_le _))
  have e : v.toList.map (s_rv ad) = (v.map (s_rv ad)).toList := by cases v <;> rfl
  rw [e]
  exact h1

theorem gl_aload_n {Ω : s_Om} {T : s_T} {Φ : s_P} {pc : Nat} {lv : s_V} {st : List Value} {h : s_H} {n kc ks : Nat} {j : Fin 4} {i : Nat} {x : Nat} (hd : decode T.2.1 pc = .ok (.aload_n j, 1)) (hi : (j : Nat) = i) (hl : lv i = some (.ref x))
    (k : s_GL Ω T Φ (pc + 1) lv (.ref x :: st) h n kc ks) : s_GL Ω T Φ pc lv (st) h n kc ks := by
  intro p l e R s m args below meth c X ad0 n0 A mc ms Qm C O ad H locs cells slots ls S
  exact lv_aload_n C.1 C.2.1 hd hi (S.2.2.2.2.2.2.2.2.2.2 i _ hl) (k p l e R s m args below meth c X ad0 n0 A mc ms Qm C O ad H locs cells slots ls S)

theorem gl_iload_n {Ω : s_Om} {T : s_T} {Φ : s_P} {pc : Nat} {lv : s_V} {st : List Value} {h : s_H} {n kc ks : Nat} {j : Fin 4} {i : Nat} {x : Int32} (hd : decode T.2.1 pc = .ok (.iload_n j, 1)) (hi : (j : Nat) = i) (hl : lv i = some (.int x))
    (k : s_GL Ω T Φ (pc + 1) lv (.int x :: st) h n kc ks) : s_GL Ω T Φ pc lv (st) h n kc ks := by
  intro p l e R s m args below meth c X ad0 n0 A mc ms Qm C O ad H locs cells slots ls S
  exact lv_iload_n C.1 C.2.1 hd hi (S.2.2.2.2.2.2.2.2.2.2 i _ hl) (k p l e R s m args below meth c X ad0 n0 A mc ms Qm C O ad H locs cells slots ls S)

theorem gl_iconst {Ω : s_Om} {T : s_T} {Φ : s_P} {pc : Nat} {lv : s_V} {st : List Value} {h : s_H} {n kc ks : Nat} {i : Int} (v : Int32) (hd : decode T.2.1 pc = .ok (.iconst i, 1)) (hv : Int32.ofInt i = v)
    (k : s_GL Ω T Φ (pc + 1) lv (.int v :: st) h n kc ks) : s_GL Ω T Φ pc lv (st) h n kc ks := by
  intro p l e R s m args below meth c X ad0 n0 A mc ms Qm C O ad H locs cells slots ls S
  exact lv_iconst C.1 C.2.1 hd hv (k p l e R s m args below meth c X ad0 n0 A mc ms Qm C O ad H locs cells slots ls S)

theorem gl_icmp_ge {Ω : s_Om} {T : s_T} {Φ : s_P} {pc : Nat} {lv : s_V} {st : List Value} {h : s_H} {n kc ks : Nat} {x y : Int32} {off : Int} {tgt : Nat} (hd : decode T.2.1 pc = .ok (.if_icmp .ge off, 3)) (ht : (pc : Int) + off = (tgt : Int))
    (kt : y ≤ x → s_GL Ω T Φ tgt lv st h n kc ks) (kf : ¬ y ≤ x → s_GL Ω T Φ (pc + 3) lv st h n kc ks) : s_GL Ω T Φ pc lv (.int y :: .int x :: st) h n kc ks := by
  intro p l e R s m args below meth c X ad0 n0 A mc ms Qm C O ad H locs cells slots ls S
  exact lv_icmp_ge C.1 C.2.1 hd ht (fun q => kt q p l e R s m args below meth c X ad0 n0 A mc ms Qm C O ad H locs cells slots ls S) (fun q => kf q p l e R s m args below meth c X ad0 n0 A mc ms Qm C O ad H locs cells slots ls S)

theorem gl_goto {Ω : s_Om} {T : s_T} {Φ : s_P} {pc : Nat} {lv : s_V} {st : List Value} {h : s_H} {n kc ks : Nat} {off : Int} {tgt : Nat} (hd : decode T.2.1 pc = .ok (.goto off, 3)) (ht : (pc : Int) + off = (tgt : Int)) (k : s_GL Ω T Φ tgt lv st h n kc ks) : s_GL Ω T Φ pc lv st h n kc ks := by
  intro p l e R s m args below meth c X ad0 n0 A mc ms Qm C O ad H locs cells slots ls S
  exact lv_goto C.1 C.2.1 hd ht (k p l e R s m args below meth c X ad0 n0 A mc ms Qm C O ad H locs cells slots ls S)

theorem gl_ireturn {Ω : s_Om} {T : s_T} {Φ : s_P} {pc : Nat} {lv : s_V} {h : s_H} {n kc ks : Nat} {x : Int32} (hd : decode T.2.1 pc = .ok (.ireturn, 1)) (ht : T.2.2.2.1 = some .int) (hq : Φ (.inl (some (.int x))) h n) : s_GL Ω T Φ pc lv [.int x] h n kc ks := gl_ret (some (.int x)) ⟨hd, .int, ht, rfl⟩ hq

theorem gl_lv {Ω : s_Om} {T : s_T} {Φ : s_P} {pc : Nat} {l : List (Nat × Value)} {lv : s_V} {st : List Value} {h : s_H} {n kc ks : Nat} (k : s_GL Ω T Φ pc (s_lvs l) st h n kc ks) (hs : s_all l lv) : s_GL Ω T Φ pc lv st h n kc ks := gl_sub k (s_all_sub l lv hs) (Nat.le_refl _) (Nat.le_refl _)
