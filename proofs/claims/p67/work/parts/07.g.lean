/-! THE JUDGEMENT. A method T: its name, its bytes, its locals, its return type, its handlers, its depth (how many calls lie below it at most) -/
abbrev s_T : Type := MethodName × ByteArray × Nat × Option FieldType × List (Nat × Nat × Nat × Nat) × Nat
/-- how a method ends: it returns (a value), or throws an exception of a class; the heap behind it, the number of its objects -/
abbrev s_P : Type := (Option Value ⊕ String) → s_H → Nat → Prop
abbrev s_V : Type := Nat → Option Value
def s_L (ls : Array Slot) (nL : Nat) (lv : s_V) (ad : Nat → Nat) : Prop := ls.size = nL ∧ lv_wf ls ∧ ∀ (i : Nat) (v : Value), lv i = some v → ls[i]? = some (.val (s_rv ad v))
/-- the state of a walk -/
def s_S (nL : Nat) (s : State) (X : va_G × (Nat → ClassId)) (ad0 : Nat → Nat) (n0 : Nat) (A : Nat → Prop) (mc ms : Nat) (lv : s_V) (h : s_H) (n kc ks : Nat) (ad : Nat → Nat) (H : Heap) (locs : List Loc) (cells slots : Nat) (ls : Array Slot) : Prop :=
  n0 ≤ n ∧ n ≤ s_big ∧ s_ag n0 n ad0 ad ∧ va_P X.1 vwCl (s_ws X.2 ad n h) H ∧ va_D A (s_ws X.2 ad n h) ∧ va_S A s.heap H locs ∧ cells + kc ≤ mc ∧ slots + ks ≤ ms ∧ s_L ls nL lv ad
/-- a return's instruction fits its value and the method's type -/
def s_rt (T : s_T) (v : Option Value) (pc : Nat) : Prop := match v with
  | none => decode T.2.1 pc = .ok (.return_, 1) ∧ T.2.2.2.1 = none
  | some (.int x) => decode T.2.1 pc = .ok (.ireturn, 1) ∧ ∃ ty, T.2.2.2.1 = some ty ∧ narrow ty (.int x) = .int x
  | some (.long _) => decode T.2.1 pc = .ok (.lreturn, 1) ∧ T.2.2.2.1 = some .long
  | some (.float _) => decode T.2.1 pc = .ok (.freturn, 1) ∧ T.2.2.2.1 = some .float
  | some (.double _) => decode T.2.1 pc = .ok (.dreturn, 1) ∧ T.2.2.2.1 = some .double
  | some (.ref _) => decode T.2.1 pc = .ok (.areturn, 1) ∧ ∃ rt, T.2.2.2.1 = some rt ∧ ((∃ n, rt = .object n) ∨ ∃ t, rt = .array t)
  | some .null => decode T.2.1 pc = .ok (.areturn, 1) ∧ ∃ rt, T.2.2.2.1 = some rt ∧ ((∃ n, rt = .object n) ∨ ∃ t, rt = .array t)
  | _ => False
def s_Er (T : s_T) (Φ : s_P) (p : Program) (l : Launch) (e : Env) (R : Room) (s : State) (m : MethodId) (args : Array Value) (below : List Frame) (meth : Method) (c : Code) (X : va_G × (Nat → ClassId)) (ad0 : Nat → Nat) (n0 : Nat) (A : Nat → Prop) (mc ms : Nat) (Qm : State → Prop) : Prop :=
  ∀ (v : Option Value) (h : s_H) (n pc : Nat) (ad : Nat → Nat) (H : Heap) (locs : List Loc) (cells slots : Nat) (ls : Array Slot), s_rt T v pc → Φ (.inl v) h n → s_S T.2.2.1 s X ad0 n0 A mc ms (fun _ => none) h n 0 0 ad H locs cells slots ls →
    W p l e R s m args below meth c H locs cells slots Qm (F0 m pc ls (v.map (s_rv ad)).toList)
def s_Et (T : s_T) (Φ : s_P) (p : Program) (l : Launch) (e : Env) (R : Room) (s : State) (m : MethodId) (args : Array Value) (below : List Frame) (meth : Method) (c : Code) (X : va_G × (Nat → ClassId)) (ad0 : Nat → Nat) (n0 : Nat) (A : Nat → Prop) (mc ms : Nat) (Qm : State → Prop) : Prop :=
  ∀ (E : String) (h : s_H) (n pc : Nat) (rest : List Value) (q : Nat) (ce : Cell) (ad : Nat → Nat) (H : Heap) (locs : List Loc) (cells slots : Nat) (ls : Array Slot), T.2.2.2.2.1 = [] → Φ (.inr E) h n → s_S T.2.2.1 s X ad0 n0 A mc ms (fun _ => none) h n 0 0 ad H locs cells slots ls →
    H[q]? = some ce → ce.vm = .none → s.vm.findClass E = some ce.cls → vx_W p l e R s m args below meth c H locs cells slots Qm (F0 m pc ls rest) q
/-- what holds all through a method's walk -/
def s_C (T : s_T) (Φ : s_P) (p : Program) (l : Launch) (e : Env) (R : Room) (s : State) (m : MethodId) (args : Array Value) (below : List Frame) (meth : Method) (c : Code) (X : va_G × (Nat → ClassId)) (ad0 : Nat → Nat) (n0 : Nat) (A : Nat → Prop) (mc ms : Nat) (Qm : State → Prop) : Prop :=
  p.tables.exec = Jvm.exec ∧ c.code = T.2.1 ∧ c.maxLocals = T.2.2.1 ∧ meth.sig.returnType = T.2.2.2.1 ∧ s.vm.findClass T.1.cls = some m.cls ∧ (∀ w ∈ s_WL, w.before args s = true) ∧ c.exceptionTable.toList = tableOf T.2.2.2.2.1 ∧ meth.locks = false ∧ l.stackTraces = false ∧
  (∀ q, s.heap.size ≤ q → A q) ∧ va_K X.1 vwCl (s_tys X.2) s ∧ s_SP ad0 A s s.heap ∧ meth.name = T.1.name ∧ (T.2.2.2.2.2 + 8 ≤ R.frames ∧ 64 * T.2.2.2.2.2 + 200 ≤ R.locals ∧ mc ≤ R.cells ∧ ms ≤ R.slots) ∧
  s_Er T Φ p l e R s m args below meth c X ad0 n0 A mc ms Qm ∧ s_Et T Φ p l e R s m args below meth c X ad0 n0 A mc ms Qm
def s_G (T : s_T) (Φ : s_P) (pc : Nat) (lv : s_V) (st : List Value) (h : s_H) (n kc ks : Nat) : Prop :=
  ∀ (p : Program) (l : Launch) (e : Env) (R : Room) (s : State) (m : MethodId) (args : Array Value) (below : List Frame) (meth : Method) (c : Code) (X : va_G × (Nat → ClassId)) (ad0 : Nat → Nat) (n0 : Nat) (A : Nat → Prop) (mc ms : Nat) (Qm : State → Prop),
    s_C T Φ p l e R s m args below meth c X ad0 n0 A mc ms Qm → ∀ (ad : Nat → Nat) (H : Heap) (locs : List Loc) (cells slots : Nat) (ls : Array Slot), s_S T.2.2.1 s X ad0 n0 A mc ms lv h n kc ks ad H locs cells slots ls →
    W p l e R s m args below meth c H locs cells slots Qm (F0 m pc ls (st.map (s_rv ad)))
/-- .. with an exception of the class E on its way -/
def s_GX (T : s_T) (Φ : s_P) (pc : Nat) (lv : s_V) (E : String) (h : s_H) (n kc ks : Nat) : Prop :=
  ∀ (p : Program) (l : Launch) (e : Env) (R : Room) (s : State) (m : MethodId) (args : Array Value) (below : List Frame) (meth : Method) (c : Code) (X : va_G × (Nat → ClassId)) (ad0 : Nat → Nat) (n0 : Nat) (A : Nat → Prop) (mc ms : Nat) (Qm : State → Prop),
    s_C T Φ p l e R s m args below meth c X ad0 n0 A mc ms Qm → ∀ (rest : List Value) (q : Nat) (ce : Cell) (ad : Nat → Nat) (H : Heap) (locs : List Loc) (cells slots : Nat) (ls : Array Slot), s_S T.2.2.1 s X ad0 n0 A mc ms lv h n kc ks ad H locs cells slots ls →
    H[q]? = some ce → ce.vm = .none → s.vm.findClass E = some ce.cls → vx_W p l e R s m args below meth c H locs cells slots Qm (F0 m pc ls rest) q
theorem s_L.none {ls : Array Slot} {nL : Nat} {lv : s_V} {ad : Nat → Nat} (h : s_L ls nL lv ad) : s_L ls nL (fun _ => none) ad := ⟨h.1, h.2.1, fun i v hv => by cases hv⟩
theorem s_L.sub {ls : Array Slot} {nL : Nat} {lv lv' : s_V} {ad : Nat → Nat} (h : s_L ls nL lv ad) (hs : ∀ i v, lv' i = some v → lv i = some v) : s_L ls nL lv' ad := ⟨h.1, h.2.1, fun i v hv => h.2.2 i v (hs i v hv)⟩
theorem s_S.sub {nL : Nat} {s : State} {X : va_G × (Nat → ClassId)} {ad0 : Nat → Nat} {n0 : Nat} {A : Nat → Prop} {mc ms : Nat} {lv lv' : s_V} {h : s_H} {n kc ks : Nat} {ad : Nat → Nat} {H : Heap} {locs : List Loc} {cells slots : Nat} {ls : Array Slot}
    (S : s_S nL s X ad0 n0 A mc ms lv h n kc ks ad H locs cells slots ls) (hs : ∀ i v, lv' i = some v → lv i = some v) {kc' ks' : Nat} (hc : kc' ≤ kc) (hk : ks' ≤ ks) : s_S nL s X ad0 n0 A mc ms lv' h n kc' ks' ad H locs cells slots ls :=
  ⟨S.1, S.2.1, S.2.2.1, S.2.2.2.1, S.2.2.2.2.1, S.2.2.2.2.2.1, Nat.le_trans (Nat.add_le_add_left hc _) S.2.2.2.2.2.2.1, Nat.le_trans (Nat.add_le_add_left hk _) S.2.2.2.2.2.2.2.1, S.2.2.2.2.2.2.2.2.sub hs⟩
/-- the method's return -/
theorem g_ret {T : s_T} {Φ : s_P} {pc : Nat} {lv : s_V} {h : s_H} {n kc ks : Nat} (v : Option Value) (hr : s_rt T v pc) (hq : Φ (.inl v) h n) : s_G T Φ pc lv v.toList h n kc ks := by
  intro p l e R s m args below meth c X ad0 n0 A mc ms Qm C ad H locs cells slots ls S
  have hEr := C.2.2.2.2.2.2.2.2.2.2.2.2.2.2.1
  have h1 := hEr v h n pc ad H locs cells slots ls hr hq (S.sub (fun i v q => by cases q) (Nat.zero_le _) (Nat.zero_le _))
  have e : v.toList.map (s_rv ad) = (v.map (s_rv ad)).toList := by cases v <;> rfl
  rw [e]
  exact h1
/-- locals that are no more needed; less room -/
theorem g_sub {T : s_T} {Φ : s_P} {pc : Nat} {lv lv' : s_V} {st : List Value} {h : s_H} {n kc ks kc' ks' : Nat} (k : s_G T Φ pc lv' st h n kc' ks') (hs : ∀ i v, lv' i = some v → lv i = some v) (hc : kc' ≤ kc) (hk : ks' ≤ ks) : s_G T Φ pc lv st h n kc ks := by
  intro p l e R s m args below meth c X ad0 n0 A mc ms Qm C ad H locs cells slots ls S
  exact k p l e R s m args below meth c X ad0 n0 A mc ms Qm C ad H locs cells slots ls (S.sub hs hc hk)
theorem gx_sub {T : s_T} {Φ : s_P} {pc : Nat} {lv lv' : s_V} {E : String} {h : s_H} {n kc ks kc' ks' : Nat} (k : s_GX T Φ pc lv' E h n kc' ks') (hs : ∀ i v, lv' i = some v → lv i = some v) (hc : kc' ≤ kc) (hk : ks' ≤ ks) : s_GX T Φ pc lv E h n kc ks := by
  intro p l e R s m args below meth c X ad0 n0 A mc ms Qm C rest q ce ad H locs cells slots ls S
  exact k p l e R s m args below meth c X ad0 n0 A mc ms Qm C rest q ce ad H locs cells slots ls (S.sub hs hc hk)
/-- not caught here -/
theorem gx_out {T : s_T} {Φ : s_P} {pc : Nat} {lv : s_V} {E : String} {h : s_H} {n kc ks : Nat} (hh : T.2.2.2.2.1 = []) (hq : Φ (.inr E) h n) : s_GX T Φ pc lv E h n kc ks := by
  intro p l e R s m args below meth c X ad0 n0 A mc ms Qm C rest q ce ad H locs cells slots ls S h1 h2 h3
  exact C.2.2.2.2.2.2.2.2.2.2.2.2.2.2.2 E h n pc rest q ce ad H locs cells slots ls hh hq (S.sub (fun i v q => by cases q) (Nat.zero_le _) (Nat.zero_le _)) h1 h2 h3
/-! contracts -/
def s_hd (T : s_T) : Cond := match T.2.2.2.2.1 with
  | [] => .code T.1 T.2.1 T.2.2.1 T.2.2.2.1
  | hh => .codeWith T.1 T.2.1 T.2.2.1 T.2.2.2.1 hh
def s_rm (d mc ms : Nat) : Room := { frames := d + 8, cells := mc, slots := ms, locals := 64 * d + 200 }
def s_Q (X : va_G × (Nat → ClassId)) (ad0 : Nat → Nat) (n0 : Nat) (h0 : s_H) (Φ : s_P) : Array Value → State → Outcome → State → Prop := fun _ st oc t =>
  (∃ (v : Option Value) (h : s_H) (n : Nat) (ad : Nat → Nat), oc = .returned (v.map (s_rv ad)) ∧ Φ (.inl v) h n ∧ n0 ≤ n ∧ n ≤ s_big ∧ s_ag n0 n ad0 ad ∧ va_P X.1 vwCl (s_ws X.2 ad n h) t.heap ∧ va_D (va_A (s_ws X.2 ad0 n0 h0) st.heap.size) (s_ws X.2 ad n h)) ∧ va_F (va_A (s_ws X.2 ad0 n0 h0) st.heap.size) st t
def s_XQ (X : va_G × (Nat → ClassId)) (ad0 : Nat → Nat) (n0 : Nat) (h0 : s_H) (Φ : s_P) : String → State → State → Prop := fun E st t =>
  (∃ (h : s_H) (n : Nat) (ad : Nat → Nat), Φ (.inr E) h n ∧ n0 ≤ n ∧ n ≤ s_big ∧ s_ag n0 n ad0 ad ∧ va_P X.1 vwCl (s_ws X.2 ad n h) t.heap ∧ va_D (va_A (s_ws X.2 ad0 n0 h0) st.heap.size) (s_ws X.2 ad n h)) ∧ va_F (va_A (s_ws X.2 ad0 n0 h0) st.heap.size) st t
def s_PC (X : va_G × (Nat → ClassId)) (ad : Nat → Nat) (n : Nat) (h : s_H) (U : State) : Prop :=
  n ≤ s_big ∧ va_P X.1 vwCl (s_ws X.2 ad n h) U.heap ∧ va_K X.1 vwCl (s_tys X.2) U ∧ va_D (fun _ => True) (s_ws X.2 ad n h) ∧ s_SP ad (va_A (s_ws X.2 ad n h) U.heap.size) U U.heap
def s_Mt (T : s_T) (mc ms : Nat) (as : List Value) (h : s_H) (n : Nat) (Φ : s_P) : Prop :=
  ∀ (l : Launch), l.stackTraces = false → ∀ (X : va_G × (Nat → ClassId)) (ad : Nat → Nat) (sz : Nat),
    vx_Met l T.1 (s_hd T :: s_WL) (s_rm T.2.2.2.2.2 mc ms) (va_Pc (as.map (s_rv ad)) (fun U => U.heap.size = sz ∧ s_PC X ad n h U)) (s_Q X ad n h Φ) (s_XQ X ad n h Φ) mc ms (va_A (s_ws X.2 ad n h) sz)
/-- the locals with which a method begins -/
def s_ent (as : List Value) : s_V := fun i => ((lv_args 0 as).find? (fun q => q.1 == i)).map (fun q => q.2)
theorem lv_args_map (f : Value → Value) (hf : ∀ v, (f v).category = v.category) : ∀ (as : List Value) (i : Nat), lv_args i (as.map f) = (lv_args i as).map (fun q => (q.1, f q.2))
  | [], _ => rfl
  | v :: vs, i => by
    show (i, f v) :: lv_args (if (f v).category = 2 then i + 2 else i + 1) (vs.map f) = (i, f v) :: (lv_args (if v.category = 2 then i + 2 else i + 1) vs).map _
    rw [hf v, lv_args_map f hf vs]
theorem lg_len_map (f : Value → Value) (hf : ∀ v, (f v).category = v.category) : ∀ (as : List Value), (lg_sl (as.map f)).length = (lg_sl as).length
  | [] => rfl
  | v :: vs => by
    have ih := lg_len_map f hf vs
    simp only [lg_sl, List.map_cons, List.flatMap_cons, List.length_append] at ih ⊢
    rw [ih, hf v]
    by_cases h : v.category = 2 <;> simp [h]
theorem s_ent_L {as : List Value} {nL : Nat} {ad : Nat → Nat} (hl : (lg_sl as).length ≤ nL) : s_L ((lg_sl (as.map (s_rv ad)) ++ List.replicate (nL - (lg_sl (as.map (s_rv ad))).length) Slot.unset).toArray) nL (s_ent as) ad := by
  obtain ⟨h1, h2, h3⟩ := lv_entry (as.map (s_rv ad)) (n := nL) (by rw [lg_len_map _ (s_cat ad)]; exact hl)
  refine ⟨h1, h2, fun i v hv => ?_⟩
  unfold s_ent at hv
  cases hf : (lv_args 0 as).find? (fun q => q.1 == i) with
  | none => rw [hf] at hv; cases hv
  | some q =>
    rw [hf] at hv
    have hq : q.1 = i := by simpa using List.find?_some hf
    have hm : q ∈ lv_args 0 as := List.mem_of_find?_eq_some hf
    cases hv
    rw [lv_args_map _ (s_cat ad)] at h3
    have := h3 (q.1, s_rv ad q.2) (List.mem_map.mpr ⟨q, hm, rfl⟩)
    rw [← hq]
    exact this
