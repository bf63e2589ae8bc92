/-! throwing and catching (written by wip/tools/throw.py) -/
section VXK
variable {p : Program} {l : Launch} {e : Env} {R : Room} {s : State} {m₀ : MethodId} {args : Array Value} {below : List Frame} {meth : Method} {c : Code} {W : State} {locs : List Loc} {cells slots : Nat}
set_option maxHeartbeats 1000000 in
theorem s_ctorX (X : Stand p l e R s m₀ args below meth c W locs cells slots) (hexec : p.tables.exec = Jvm.exec) (htr : e.platform.stackTraces = false) {own cls : String} {names : List String} {ic : Nat} {ix : Nat} {rx : ByteArray} (x0 : decode rx 0 = .ok (.aload_n 0, 1)) (x1 : decode rx 1 = .ok (.aload_n 1, 1)) (x2 : decode rx 2 = .ok (.invokespecial ix, 3)) (x5 : decode rx 5 = .ok (.return_, 1))
    (hown : s.vm.findClass own = some m₀.cls) (hcls : Bundle.fit cls = true) (hnames : ∀ n ∈ names, Bundle.fit n = true)
    (h : ∀ a ∈ Bundle.ownAtomsX own ic cls ix rx names, a.before args s = true)
    (hlocs : ∀ x ∈ locs, ∀ cell, s.heap[x.base]? = some cell → cell.vm.isStatics = false)
    {a : Addr} {cX : ClassId} {kX : Class} (hfoundX : s.vm.findClass cls = some cX) (hkX : s.vm.classes[cX]? = some kX) (hcell : W.heap[a]? = some (freshCell cX kX)) (hnew : s.heap.size ≤ a)
    {msg : Value} (hmsg : msg.isRef = true)
    {g : JFrame} (hg : g.method = m₀) (hsize : g.locals.size = c.maxLocals) {rest : List Value} (hstack : g.stack = msg :: .ref a :: .ref a :: rest)
    (hd6 : decode c.code g.pc = .ok (.invokespecial ic, 3))
    (hRframes : names.length + 3 < R.frames) (hRlocals : 2 * g.monitorRoom + ((Value.ref a :: rest).map fun v => v.category).sum + (13 * (names.length + 1) + 42) ≤ R.locals) :
    ∃ (V : State) (ce : Cell) (L : List Loc), Stand p l e R s m₀ args below meth c (V.setCell a ce) (locs ++ L) cells slots ∧ (∀ y ∈ L, y.base = a) ∧ a < V.heap.size ∧ ce.cls = cX ∧ ce.vm = .none ∧
      ∀ target, Steps p.tables e below ((V.setCell a ce).setTop { g with stack := .ref a :: rest, pc := g.pc + 3 }) target → Steps p.tables e below (W.setTop g) target := by
  have howns : e.platform.frameOwnsMonitors = true := by rw [X.admits.platform]
  have hfin : e.platform.finalization = false := by rw [X.admits.platform]
  have hpl : e.platform.magicAccessors = ({} : Platform).magicAccessors := by rw [X.admits.platform]
  have a' : ∀ x, x ∈ Bundle.ownAtomsX own ic cls ix rx names → x.holds args s none s [] = true := fun x hx => h x hx
  obtain ⟨T, Z0, L, -, Y⟩ := ThrowableC.of_atoms (args := args) howns hfin hpl (fun x hx => h x (by simp [Bundle.ownAtomsX, hx]))
  obtain ⟨Z, M, LZ, LM, hnZ⟩ := Init0T.ofS_atoms (args := args) hpl L Y (fun x hx => h x (by simp [Bundle.ownAtomsX, hx]))
  obtain ⟨P1, Ps, hlen, L1, hL, hP1m, hlink1, hlink⟩ := Bundle.chainSX (args := args) hpl hnZ x0 x1 x2 x5 names cls hcls hnames (fun x hx => h x (by simp [Bundle.ownAtomsX, hx]))
  have hfound : s.vm.findClass cls = some P1.m.cls := findClass_of_methodNamed hP1m
  cases Option.some.inj (hfoundX.symm.trans hfound)
  obtain ⟨c1, kX', hc1, hk, hord, -, -, hn6⟩ := Cond.instantiable_spec (a' (.instantiable cls 6) (by simp [Bundle.ownAtomsX]))
  cases Option.some.inj (hc1.symm.trans hfound)
  cases Option.some.inj (hkX.symm.trans hk)
  have hsel0 : selectMethod e.platform s.vm P1.m.cls T.fill0 = .method T.fill0 := by
    obtain ⟨c2, r2, m2, q1, q2, q3, q4, -⟩ := Cond.selects_spec (a' (.selects cls Bundle.tFill0 Bundle.tFill0) (by simp [Bundle.ownAtomsX]))
    cases Option.some.inj (q1.symm.trans hfound)
    cases Option.some.inj (q2.symm.trans (State.methodFound?_of_named Y.fill0 (by decide)))
    cases Option.some.inj (q3.symm.trans Y.fill0)
    rw [Launch.admits_selectMethod X.admits]; exact q4
  have hselF : selectMethod e.platform s.vm P1.m.cls T.fill = .method T.fill := by
    obtain ⟨c2, r2, m2, q1, q2, q3, q4, -⟩ := Cond.selects_spec (a' (.selects cls Bundle.tFill Bundle.tFill) (by simp [Bundle.ownAtomsX]))
    cases Option.some.inj (q1.symm.trans hfound)
    cases Option.some.inj (q2.symm.trans (State.methodFound?_of_named Y.fill (by decide)))
    cases Option.some.inj (q3.symm.trans Y.fill)
    rw [Launch.admits_selectMethod X.admits]; exact q4
  obtain ⟨cellS0, hcS0, hiss⟩ := Y.statics
  obtain ⟨u0, hu0⟩ := Cond.staticRefV Y.unassigned L.unassignedStatic L.statics hcS0 hiss (a' (.isRef (.static Bundle.tN "UNASSIGNED_STACK" Bundle.steD)) (by simp [Bundle.ownAtomsX]))
  obtain ⟨sen, hsen⟩ := Cond.staticRefV Y.sentinel L.sentinelStatic L.statics hcS0 hiss (a' (.isRef (.static Bundle.tN "SUPPRESSED_SENTINEL" Bundle.listD)) (by simp [Bundle.ownAtomsX]))
  obtain ⟨ci198, i198, fB, hk198, hg198, ha198, hsB, -, hnB, htB, hffB⟩ := Cond.ownField (t := .object "java/lang/Object") Y.found L.cls (by decide +kernel) (a' (.fieldLink Bundle.tN 198 Bundle.tN "backtrace" "Ljava/lang/Object;") (by simp [Bundle.ownAtomsX])) (a' (.lays Bundle.tN Bundle.tN "backtrace" "Ljava/lang/Object;") (by simp [Bundle.ownAtomsX])) e.platform hpl
  obtain ⟨cellS, hcS', heS, -, hkeep⟩ := X.same.2.2.2.2.2 T.aS cellS0 hcS0
  have hcellS : W.heap[T.aS]? = some cellS := hcS'
  have hout' : ∀ i, (⟨T.aS, i⟩ : Loc) ∉ locs := fun i hmem => by
    have := hlocs _ hmem cellS0 hcS0
    rw [hiss] at this; cases this
  have hknownS : cellS.vm ≠ .unknown := by
    rw [heS]; intro hu
    rw [show cellS0.vm = .unknown from hu] at hiss
    cases hiss
  have hneS : T.aS ≠ a := Nat.ne_of_lt (Nat.lt_of_lt_of_le (Array.getElem?_eq_some_iff.mp hcS0).1 hnew)
  obtain ⟨iM, hffM⟩ := Y.msg
  obtain ⟨tyC, dC, hdC, hdnC⟩ := Cond.laysAt hfound hk Y.cause (a' (.lays cls Bundle.tN "cause" "Ljava/lang/Throwable;") (by simp [Bundle.ownAtomsX]))
  obtain ⟨tyS, dS, hdS, hdnS⟩ := Cond.laysAt hfound hk Y.stack (a' (.lays cls Bundle.tN "stackTrace" Bundle.steD) (by simp [Bundle.ownAtomsX]))
  obtain ⟨tyP, dP, hdP, hdnP⟩ := Cond.laysAt hfound hk Y.supp (a' (.lays cls Bundle.tN "suppressedExceptions" Bundle.listD) (by simp [Bundle.ownAtomsX]))
  obtain ⟨tyM, dM, hdM, hdnM⟩ := Cond.laysAt hfound hk hffM (a' (.lays cls Bundle.tN "detailMessage" "Ljava/lang/String;") (by simp [Bundle.ownAtomsX]))
  obtain ⟨tyB, dB, hdB, hdnB⟩ := Cond.laysAt hfound hk hffB (a' (.lays cls Bundle.tN "backtrace" "Ljava/lang/Object;") (by simp [Bundle.ownAtomsX]))
  have bC := Cond.laysApart hdB hdC hdnB hdnC (by rw [hnB, Y.causeName]; decide)
  have bS := Cond.laysApart hdB hdS hdnB hdnS (by rw [hnB, Y.stackName]; decide)
  have bP := Cond.laysApart hdB hdP hdnB hdnP (by rw [hnB, Y.suppName]; decide)
  have hskip : SkipFacts T e.platform s (fun u => u) u0 ((preparedCellV T.toThrowableT (freshCell P1.m.cls kX) a u0 sen).withEntry W.cur) :=
    ⟨{ ci198 := ci198, i198 := i198, fBack := fB }, ⟨hk198, hg198, ha198, hsB⟩, by
      have := fresh_default (c := P1.m.cls) tyB
      rw [htB] at this
      simpa [preparedCellV, Cell.setSlot, Cell.withEntry, Array.getElem?_setIfInBounds, bC, bS, bP, bC.symm, bS.symm, bP.symm, defaultValue] using this, fun _ _ => rfl⟩
  obtain ⟨tm, methC, cdC, kC, vm₁, hnC, -, -, -, -, -, -, -, hW₁, st1⟩ := Steps.initColdS (tb := p.tables) (e := e) (below := below) (s := s) (U := W) X.here hexec X.warmed hpl hown (t := Bundle.initS cls) rfl rfl (Bundle.fit_spec hcls).2
    (a' (.methodLink own ic (Bundle.initS cls)) (by simp [Bundle.ownAtomsX])) (h (.instanceMethod (Bundle.initS cls)) (by cases names <;> simp [Bundle.ownAtomsX, Bundle.chainSAtomsX, Bundle.passSAtoms])) (bytes := rx) (maxL := 2) (h (.code (Bundle.initS cls) rx 2 none) (by cases names <;> simp [Bundle.ownAtomsX, Bundle.chainSAtomsX, Bundle.passSAtoms]))
    (f := g) hg (a := a) (msg := msg) (rest := .ref a :: rest) hstack hd6
  cases Option.some.inj (hnC.symm.trans hP1m)
  have X₁ := X.noted hW₁
  obtain ⟨vm₂, X₂, st2⟩ := X₁.ctorMessageOffV hexec (g := { g with stack := .ref a :: rest }) hg hsize T L Z LZ M LM (P1 :: Ps)
    (fun P hP => by rcases List.mem_cons.mp hP with rfl | hP; exact L1; exact hL P hP) ⟨hlink1, hlink⟩ (u0 := u0) (sen := sen) (self := a) hmsg (cell := freshCell P1.m.cls kX) (cellS := cellS)
    hcell (fun _ => by simp) (by simp) rfl rfl hsel0 hselF hcellS hneS hknownS (by rw [hkeep _ (hout' _)]; exact hu0) (by rw [hkeep _ (hout' _)]; exact hsen)
    (Takes.of_laid hk hord tyC (by rw [Y.causeType]; rfl)) (Takes.of_laid hk hord tyS (by rw [Y.stackType]; exact fits_refV_array _ u0)) (Takes.of_laid hk hord tyP (by rw [Y.suppType]; exact fits_refV_object _ sen))
    (Takes.of_laid hk hord tyM (by rw [Y.msgType]; exact fits_refV_object _ ⟨msg, hmsg⟩)) Y.objLocals hskip htr [] hd6
    (by simp only [List.length_cons, hlen]; omega) (by simp only [List.length_cons, hlen]; exact hRlocals)
  have hlt : a < ((W.setVm vm₁).setVm vm₂).heap.size := (Array.getElem?_eq_some_iff.mp hcell).1
  refine ⟨(W.setVm vm₁).setVm vm₂, _, _, X₂, fun y hy => ?_, hlt, rfl, rfl, fun target hwalk => st1 _ (fun acts => ?_)⟩
  · simp only [List.mem_cons, List.not_mem_nil, or_false] at hy
    rcases hy with rfl | rfl | rfl | rfl | rfl <;> rfl
  · rw [doInvoke_state]
    exact st2 _ hwalk
end VXK
section VXK2
variable {p : Program} {l : Launch} {e : Env} {R : Room} {s : State} {m : MethodId} {args : Array Value} {below : List Frame} {meth : Method} {c : Code} {H : Heap} {locs : List Loc} {cells slots : Nat} {Q : State → Prop}
variable {ls : Array Slot} {rest : List Value}
theorem s_mkX {cc : ByteArray} {pc : Nat} (hexec : p.tables.exec = Jvm.exec) (hb : c.code = cc) (hl : l.stackTraces = false) {own cls text : String} {names : List String} {ik is ic sa : Nat} {A : Nat → Prop} {ix : Nat} {rx : ByteArray} (x0 : decode rx 0 = .ok (.aload_n 0, 1)) (x1 : decode rx 1 = .ok (.aload_n 1, 1)) (x2 : decode rx 2 = .ok (.invokespecial ix, 3)) (x5 : decode rx 5 = .ok (.return_, 1))
    (hown : s.vm.findClass own = some m.cls) (hcls : Bundle.fit cls = true) (hnames : ∀ n ∈ names, Bundle.fit n = true)
    (hk : (Cond.classLink own ik cls).before args s = true) (hini : (Cond.initialized cls).before args s = true) (hstr : vk_R own is text sa s) (hat : ∀ w ∈ (Bundle.ownAtomsX own ic cls ix rx names).filter vx_no, w.before args s = true)
    (hgood : ∀ w ∈ Cond.classLink own ik cls :: Cond.initialized cls :: (Bundle.ownAtomsX own ic cls ix rx names).filter vx_no, vx_ot w = true)
    (hU : vx_Zq Bundle.tN "UNASSIGNED_STACK" Bundle.steD A s s.heap) (hN : vx_Zq Bundle.tN "SUPPRESSED_SENTINEL" Bundle.listD A s s.heap) (hS : va_S A s.heap H locs) (hsize : ls.size = c.maxLocals)
    (d0 : decode cc pc = .ok (.new ik, 3)) (d3 : decode cc (pc + 3) = .ok (.dup, 1)) (d4 : decode cc (pc + 4) = .ok (.ldc is, 2)) (d6 : decode cc (pc + 6) = .ok (.invokespecial ic, 3)) (d9 : decode cc (pc + 9) = .ok (.athrow, 1))
    (hRframes : names.length + 3 < R.frames) (hRlocals : (rest.map fun v => v.category).sum + (13 * (names.length + 1) + 43) ≤ R.locals) (hRcells : cells + 1 ≤ R.cells) (hRslots : slots + 6 ≤ R.slots)
    (kk : ∀ (q : Nat) (H1 : Heap) (ce : Cell), H.size ≤ H1.size → (∀ k : Nat, k < H.size → H1[k]? = H[k]?) → va_S A s.heap H1 locs → H1[q]? = some ce → ce.vm = .none → s.vm.findClass cls = some ce.cls → vx_W p l e R s m args below meth c H1 locs (cells + 1) (slots + 6) Q (F0 m (pc + 9) ls rest) q) :
    W p l e R s m args below meth c H locs cells slots Q (F0 m pc ls rest) := by
  intro T hT X
  subst hT
  have htr : e.platform.stackTraces = false := (show e.platform.stackTraces = l.stackTraces by rw [X.admits.platform]).trans hl
  have Y := vx_rebase X (R' := { frames := R.frames, locals := R.locals, cells := 1, slots := 6 }) (Nat.le_refl _) (Nat.le_refl _) hRcells hRslots
  obtain ⟨s', hA'⟩ : ∃ z, z = (T.setVm s.vm).setFrames (.invoking m args :: below) := ⟨_, rfl⟩
  rw [← hA'] at Y
  have hvm : s'.vm = s.vm := by rw [hA']; rfl
  have hhp : s'.heap = T.heap := by rw [hA']; rfl
  have hW0 : s.WarmedH s'.vm := by rw [hvm]; exact State.WarmedH.refl s
  have hat' : ∀ w ∈ (Bundle.ownAtomsX own ic cls ix rx names).filter vx_no, w.before args s' = true := fun w hw => vx_ot_at hW0 hvm.symm (hgood w (List.mem_cons_of_mem _ (List.mem_cons_of_mem _ hw))) (hat w hw)
  have hk' : (Cond.classLink own ik cls).before args s' = true := vx_ot_at hW0 hvm.symm (hgood _ List.mem_cons_self) hk
  have hini' : (Cond.initialized cls).before args s' = true := vx_ot_at hW0 hvm.symm (hgood _ (List.mem_cons_of_mem _ List.mem_cons_self)) hini
  have hU' : vx_Zq Bundle.tN "UNASSIGNED_STACK" Bundle.steD A s' s'.heap := by rw [hhp]; exact vx_Zq.moved hW0.alike (hU.kept hS.2.1)
  have hN' : vx_Zq Bundle.tN "SUPPRESSED_SENTINEL" Bundle.listD A s' s'.heap := by rw [hhp]; exact vx_Zq.moved hW0.alike (hN.kept hS.2.1)
  have h : ∀ w ∈ Bundle.ownAtomsX own ic cls ix rx names, w.before args s' = true := vx_own hat' (vx_isRefq hU'.1) (vx_isRefq hN'.1) hU'.2.word hN'.2.word
  have hown' : s'.vm.findClass own = some m.cls := by rw [hvm]; exact hown
  have hins : (Cond.instantiable cls 6).before args s' = true := h _ (by simp [Bundle.ownAtomsX])
  obtain ⟨vm₁, cX, kX, hfX, hkX, -, -, X₁, st1⟩ := Y.newCold hexec (own := own) (C := cls) (index := ik) (n := 6) hown' hk' hins hini'
    (g := F0 m pc ls rest) rfl (by rw [hb]; exact d0) (Nat.le_refl _) (Nat.le_refl _)
  generalize hT1 : (T.setVm vm₁).pushCell { cls := cX, slots := kX.instanceTypes.map defaultValue, vm := .none } = T1 at X₁ st1
  have hcat : (Value.ref T.heap.size).category = 1 := rfl
  have hcellA : T1.heap[T.heap.size]? = some (freshCell cX kX) := by rw [← hT1]; exact State.heap_pushCell_size _ _
  have d3' : decode c.code (pc + 3) = .ok (.dup, 1) := by rw [hb]; exact d3
  have d4' : decode c.code (pc + 4) = .ok (.ldc is, 2) := by rw [hb]; exact d4
  have hstr' : vk_R own is text sa s' := vk_R.warm hW0 hstr
  obtain ⟨V, ce, L, Z, hL, hlt, hcl9, hvm9, st⟩ := s_ctorX X₁ hexec htr x0 x1 x2 x5 (own := own) (cls := cls) (names := names) (ic := ic) hown' hcls hnames h (fun x hx => nomatch hx) hfX hkX hcellA (by rw [hhp]; exact Nat.le_refl _) (msg := .ref sa) rfl
    (g := { method := m, pc := pc + 6, locals := ls, stack := .ref sa :: .ref T.heap.size :: .ref T.heap.size :: rest, locked := none }) rfl hsize (rest := rest) rfl
    (by rw [hb]; exact d6) hRframes (by simp only [List.map_cons, List.sum_cons, hcat]; omega)
  have Z0 := Stand.forget (locs := []) Z (fun y hy => by rw [hL y hy, hhp]; exact Nat.le_refl _)
  obtain ⟨f1, f2⟩ := vx_frame Z0.same
  rw [hhp] at f1 f2
  have hh : (V.setCell T.heap.size ce).heap[T.heap.size]? = some ce := heapAt_setCell_self (s := V) ce hlt
  subst hA'
  have X5 := vx_back9 X Y Z0
  have X6 : Stand p l e R s m args below meth c (V.setCell T.heap.size ce) locs (cells + 1) (slots + 6) := { X5 with same := X5.same.mono (by omega) (by omega) }
  have hcl : s.vm.findClass cls = some ce.cls := by
    rw [hcl9]
    exact hfX
  obtain ⟨t, a1, b1⟩ := vx_athrow hexec hb d9 (kk T.heap.size (V.setCell T.heap.size ce).heap ce f1 (fun q hq => f2 q hq (fun z hz => nomatch hz)) ⟨Nat.le_trans hS.1 f1, fun q h1 h2 => (f2 q (Nat.lt_of_lt_of_le h1 hS.1) (fun z hz => nomatch hz)).trans (hS.2.1 q h1 h2), hS.2.2⟩ hh hvm9 hcl) _ rfl X6
  refine ⟨t, st1 _ ?_, b1⟩
  show Steps p.tables e below (T1.setTop { method := m, pc := pc + 3, locals := ls, stack := .ref T.heap.size :: rest, locked := none }) _
  jvm_step X₁.here [X₁.here.top, hexec, d3', Value.category]
  exact X₁.ldcString hexec (own := own) (text := text) (index := is) (a := sa) hown' hstr'.1 hstr'.2
    (g := { method := m, pc := pc + 4, locals := ls, stack := .ref T.heap.size :: .ref T.heap.size :: rest, locked := none }) rfl d4' _ (st _ a1)
theorem s_mkXW {cc : ByteArray} {pc : Nat} (hexec : p.tables.exec = Jvm.exec) (hb : c.code = cc) (hl : l.stackTraces = false) {own cls text : String} {names : List String} {ik is ic sa : Nat} {A : Nat → Prop} {ix : Nat} {rx : ByteArray} (x0 : decode rx 0 = .ok (.aload_n 0, 1)) (x1 : decode rx 1 = .ok (.aload_n 1, 1)) (x2 : decode rx 2 = .ok (.invokespecial ix, 3)) (x5 : decode rx 5 = .ok (.return_, 1))
    (hown : s.vm.findClass own = some m.cls) (hcls : Bundle.fit cls = true) (hnames : ∀ n ∈ names, Bundle.fit n = true)
    (hk : (Cond.classLink own ik cls).before args s = true) (hini : (Cond.initialized cls).before args s = true) (hstr : vk_R own is text sa s) (hat : ∀ w ∈ (Bundle.ownAtomsX own ic cls ix rx names).filter vx_no, w.before args s = true)
    (hgood : ∀ w ∈ Cond.classLink own ik cls :: Cond.initialized cls :: (Bundle.ownAtomsX own ic cls ix rx names).filter vx_no, vx_ot w = true)
    (hU : vx_Zq Bundle.tN "UNASSIGNED_STACK" Bundle.steD A s s.heap) (hN : vx_Zq Bundle.tN "SUPPRESSED_SENTINEL" Bundle.listD A s s.heap) (hS : va_S A s.heap H locs) (hsize : ls.size = c.maxLocals)
    (d0 : decode cc pc = .ok (.new ik, 3)) (d3 : decode cc (pc + 3) = .ok (.dup, 1)) (d4 : decode cc (pc + 4) = .ok (.ldc_w is, 3)) (d7 : decode cc (pc + 7) = .ok (.invokespecial ic, 3)) (d10 : decode cc (pc + 10) = .ok (.athrow, 1))
    (hRframes : names.length + 3 < R.frames) (hRlocals : (rest.map fun v => v.category).sum + (13 * (names.length + 1) + 43) ≤ R.locals) (hRcells : cells + 1 ≤ R.cells) (hRslots : slots + 6 ≤ R.slots)
    (kk : ∀ (q : Nat) (H1 : Heap) (ce : Cell), H.size ≤ H1.size → (∀ k : Nat, k < H.size → H1[k]? = H[k]?) → va_S A s.heap H1 locs → H1[q]? = some ce → ce.vm = .none → s.vm.findClass cls = some ce.cls → vx_W p l e R s m args below meth c H1 locs (cells + 1) (slots + 6) Q (F0 m (pc + 10) ls rest) q) :
    W p l e R s m args below meth c H locs cells slots Q (F0 m pc ls rest) := by
  intro T hT X
  subst hT
  have htr : e.platform.stackTraces = false := (show e.platform.stackTraces = l.stackTraces by rw [X.admits.platform]).trans hl
  have Y := vx_rebase X (R' := { frames := R.frames, locals := R.locals, cells := 1, slots := 6 }) (Nat.le_refl _) (Nat.le_refl _) hRcells hRslots
  obtain ⟨s', hA'⟩ : ∃ z, z = (T.setVm s.vm).setFrames (.invoking m args :: below) := ⟨_, rfl⟩
  rw [← hA'] at Y
  have hvm : s'.vm = s.vm := by rw [hA']; rfl
  have hhp : s'.heap = T.heap := by rw [hA']; rfl
  have hW0 : s.WarmedH s'.vm := by rw [hvm]; exact State.WarmedH.refl s
  have hat' : ∀ w ∈ (Bundle.ownAtomsX own ic cls ix rx names).filter vx_no, w.before args s' = true := fun w hw => vx_ot_at hW0 hvm.symm (hgood w (List.mem_cons_of_mem _ (List.mem_cons_of_mem _ hw))) (hat w hw)
  have hk' : (Cond.classLink own ik cls).before args s' = true := vx_ot_at hW0 hvm.symm (hgood _ List.mem_cons_self) hk
  have hini' : (Cond.initialized cls).before args s' = true := vx_ot_at hW0 hvm.symm (hgood _ (List.mem_cons_of_mem _ List.mem_cons_self)) hini
  have hU' : vx_Zq Bundle.tN "UNASSIGNED_STACK" Bundle.steD A s' s'.heap := by rw [hhp]; exact vx_Zq.moved hW0.alike (hU.kept hS.2.1)
  have hN' : vx_Zq Bundle.tN "SUPPRESSED_SENTINEL" Bundle.listD A s' s'.heap := by rw [hhp]; exact vx_Zq.moved hW0.alike (hN.kept hS.2.1)
  have h : ∀ w ∈ Bundle.ownAtomsX own ic cls ix rx names, w.before args s' = true := vx_own hat' (vx_isRefq hU'.1) (vx_isRefq hN'.1) hU'.2.word hN'.2.word
  have hown' : s'.vm.findClass own = some m.cls := by rw [hvm]; exact hown
  have hins : (Cond.instantiable cls 6).before args s' = true := h _ (by simp [Bundle.ownAtomsX])
  obtain ⟨vm₁, cX, kX, hfX, hkX, -, -, X₁, st1⟩ := Y.newCold hexec (own := own) (C := cls) (index := ik) (n := 6) hown' hk' hins hini'
    (g := F0 m pc ls rest) rfl (by rw [hb]; exact d0) (Nat.le_refl _) (Nat.le_refl _)
  generalize hT1 : (T.setVm vm₁).pushCell { cls := cX, slots := kX.instanceTypes.map defaultValue, vm := .none } = T1 at X₁ st1
  have hcat : (Value.ref T.heap.size).category = 1 := rfl
  have hcellA : T1.heap[T.heap.size]? = some (freshCell cX kX) := by rw [← hT1]; exact State.heap_pushCell_size _ _
  have d3' : decode c.code (pc + 3) = .ok (.dup, 1) := by rw [hb]; exact d3
  have d4' : decode c.code (pc + 4) = .ok (.ldc_w is, 3) := by rw [hb]; exact d4
  have hstr' : vk_R own is text sa s' := vk_R.warm hW0 hstr
  obtain ⟨V, ce, L, Z, hL, hlt, hcl9, hvm9, st⟩ := s_ctorX X₁ hexec htr x0 x1 x2 x5 (own := own) (cls := cls) (names := names) (ic := ic) hown' hcls hnames h (fun x hx => nomatch hx) hfX hkX hcellA (by rw [hhp]; exact Nat.le_refl _) (msg := .ref sa) rfl
    (g := { method := m, pc := pc + 7, locals := ls, stack := .ref sa :: .ref T.heap.size :: .ref T.heap.size :: rest, locked := none }) rfl hsize (rest := rest) rfl
    (by rw [hb]; exact d7) hRframes (by simp only [List.map_cons, List.sum_cons, hcat]; omega)
  have Z0 := Stand.forget (locs := []) Z (fun y hy => by rw [hL y hy, hhp]; exact Nat.le_refl _)
  obtain ⟨f1, f2⟩ := vx_frame Z0.same
  rw [hhp] at f1 f2
  have hh : (V.setCell T.heap.size ce).heap[T.heap.size]? = some ce := heapAt_setCell_self (s := V) ce hlt
  subst hA'
  have X5 := vx_back9 X Y Z0
  have X6 : Stand p l e R s m args below meth c (V.setCell T.heap.size ce) locs (cells + 1) (slots + 6) := { X5 with same := X5.same.mono (by omega) (by omega) }
  have hcl : s.vm.findClass cls = some ce.cls := by
    rw [hcl9]
    exact hfX
  obtain ⟨t, a1, b1⟩ := vx_athrow hexec hb d10 (kk T.heap.size (V.setCell T.heap.size ce).heap ce f1 (fun q hq => f2 q hq (fun z hz => nomatch hz)) ⟨Nat.le_trans hS.1 f1, fun q h1 h2 => (f2 q (Nat.lt_of_lt_of_le h1 hS.1) (fun z hz => nomatch hz)).trans (hS.2.1 q h1 h2), hS.2.2⟩ hh hvm9 hcl) _ rfl X6
  refine ⟨t, st1 _ ?_, b1⟩
  show Steps p.tables e below (T1.setTop { method := m, pc := pc + 3, locals := ls, stack := .ref T.heap.size :: rest, locked := none }) _
  jvm_step X₁.here [X₁.here.top, hexec, d3', Value.category]
  exact X₁.ldcStringW hexec (own := own) (text := text) (index := is) (a := sa) hown' hstr'.1 hstr'.2
    (g := { method := m, pc := pc + 4, locals := ls, stack := .ref T.heap.size :: .ref T.heap.size :: rest, locked := none }) rfl d4' _ (st _ a1)
end VXK2
/-- the constructor of NoSuchElementException with a text -/
def s_ns : ByteArray := ⟨#[0x2a, 0x2b, 0xb7, 0x00, 0x0d, 0xb1]⟩
abbrev s_up2 : List String := ["java/lang/RuntimeException", "java/lang/Exception"]
/-- what a throw of cls by its indices needs of the tables -/
def s_tw (ik ic : Nat) (cls : String) (ix : Nat) (rx : ByteArray) : Prop := Bundle.fit cls = true ∧ (decode rx 0 = .ok (.aload_n 0, 1) ∧ decode rx 1 = .ok (.aload_n 1, 1) ∧ decode rx 2 = .ok (.invokespecial ix, 3) ∧ decode rx 5 = .ok (.return_, 1)) ∧ Cond.classLink "BackupPlanner" ik cls ∈ s_WL ∧ Cond.initialized cls ∈ s_WL ∧
  (∀ w ∈ ((Bundle.ownAtomsX "BackupPlanner" ic cls ix rx s_up2).filter vx_no).filter goodWord, w ∈ s_WL) ∧ (∀ w ∈ ((Bundle.ownAtomsX "BackupPlanner" ic cls ix rx s_up2).filter vx_no).filter (fun w => !goodWord w), w ∈ s_NW) ∧ (∀ w ∈ (Bundle.ownAtomsX "BackupPlanner" ic cls ix rx s_up2).filter vx_no, vx_ot w = true)
theorem s_tw.at {ik ic ix : Nat} {cls : String} {rx : ByteArray} {args : Array Value} {s : State} (w : s_tw ik ic cls ix rx) (h1 : ∀ w ∈ s_WL, w.before args s = true) (h2 : ∀ w ∈ s_NW, va_Nw w s) : ∀ w ∈ (Bundle.ownAtomsX "BackupPlanner" ic cls ix rx s_up2).filter vx_no, w.before args s = true := by
  intro v hv
  by_cases g : goodWord v = true
  · exact h1 v (w.2.2.2.2.1 v (List.mem_filter.mpr ⟨hv, g⟩))
  · have hm := w.2.2.2.2.2.1 v (List.mem_filter.mpr ⟨hv, by simp [g]⟩)
    have ho := w.2.2.2.2.2.2 v hv
    simp only [vx_ot, Bool.or_eq_true, g, Bool.false_eq_true, or_false] at ho
    exact va_tabs ho rfl (h2 v hm)
/-- new; dup; the text; the constructor; athrow -/
theorem g_throw {T : s_T} {Φ : s_P} {pc : Nat} {lv : s_V} {st : List Value} {h : s_H} {n kc ks : Nat} {cls text : String} {ik is ic ix : Nat} {rx : ByteArray} (d0 : decode T.2.1 pc = .ok (.new ik, 3)) (d3 : decode T.2.1 (pc + 3) = .ok (.dup, 1)) (d4 : decode T.2.1 (pc + 4) = .ok (.ldc is, 2)) (d6 : decode T.2.1 (pc + 6) = .ok (.invokespecial ic, 3)) (d9 : decode T.2.1 (pc + 9) = .ok (.athrow, 1)) (hown : T.1.cls = "BackupPlanner") (htx : (is, text) ∈ s_thr) (w : s_tw ik ic cls ix rx) (hc : 1 ≤ kc) (hs : 6 ≤ ks) (hst : (st.map fun v => v.category).sum ≤ 8)
    (k : s_GX T Φ (pc + 9) lv cls h n (kc - 1) (ks - 6)) : s_G T Φ pc lv st h n kc ks := by
  intro p l e R s m args below meth c X ad0 n0 A mc ms Qm C ad H locs cells slots ls S
  obtain ⟨w1, ⟨x0, x1, x2, x5⟩, w3, w4, w5, w6, w7⟩ := id w
  obtain ⟨sa, hsa⟩ := C.2.2.2.2.2.2.2.2.2.2.2.1.1.2.2.1 _ htx
  have hK := C.2.2.2.2.2.2.2.2.2.2.2.2.2.1
  have hcl := C.2.2.2.2.1
  rw [hown] at hcl
  refine s_mkX (own := "BackupPlanner") (cls := cls) (text := text) (names := s_up2) (ik := ik) (is := is) (ic := ic) (sa := sa) (A := A) C.1 C.2.1 C.2.2.2.2.2.2.2.2.1 x0 x1 x2 x5 hcl w1 (by decide +kernel) (C.2.2.2.2.2.1 _ w3) (C.2.2.2.2.2.1 _ w4) hsa (w.at C.2.2.2.2.2.1 C.2.2.2.2.2.2.2.2.2.2.2.1.1.1)
    (fun v hv => ?_) C.2.2.2.2.2.2.2.2.2.2.2.1.2.1 C.2.2.2.2.2.2.2.2.2.2.2.1.2.2.1 S.2.2.2.2.2.1 (S.2.2.2.2.2.2.2.2.1.trans C.2.2.1.symm) d0 d3 d4 d6 d9 (Nat.lt_of_lt_of_le (by show 5 < 8; decide) (Nat.le_trans (Nat.le_add_left 8 _) hK.1)) ?_ (Nat.le_trans (Nat.add_le_add_left hc _) (Nat.le_trans S.2.2.2.2.2.2.1 hK.2.2.1)) (Nat.le_trans (Nat.add_le_add_left hs _) (Nat.le_trans S.2.2.2.2.2.2.2.1 hK.2.2.2)) ?_
  · rcases List.mem_cons.mp hv with rfl | hv
    · simp only [vx_ot, s_WL_good w3, Bool.or_true]
    · rcases List.mem_cons.mp hv with rfl | hv
      · simp only [vx_ot, s_WL_good w4, Bool.or_true]
      · exact w7 v hv
  · have h9 := s_cats (ad := ad) hst
    have h8 := hK.2.1
    show _ + (13 * 3 + 43) ≤ R.locals
    omega
  · intro q H1 ce z1 z2 z3 z4 z5 z6
    have hD := S.2.2.2.2.1
    refine k p l e R s m args below meth c X ad0 n0 A mc ms Qm C (st.map (s_rv ad)) q ce ad H1 locs (cells + 1) (slots + 6) ls ⟨S.1, S.2.1, S.2.2.1, S.2.2.2.1.kept (fun k x hx => z2 x.1 ((S.2.2.2.1 k x hx).lt)), hD, z3, ?_, ?_, S.2.2.2.2.2.2.2.2⟩ z4 z5 z6
    · have := S.2.2.2.2.2.2.1
      omega
    · have := S.2.2.2.2.2.2.2.1
      omega
/-- new; dup; the text; the constructor; athrow -/
theorem g_throwW {T : s_T} {Φ : s_P} {pc : Nat} {lv : s_V} {st : List Value} {h : s_H} {n kc ks : Nat} {cls text : String} {ik is ic ix : Nat} {rx : ByteArray} (d0 : decode T.2.1 pc = .ok (.new ik, 3)) (d3 : decode T.2.1 (pc + 3) = .ok (.dup, 1)) (d4 : decode T.2.1 (pc + 4) = .ok (.ldc_w is, 3)) (d6 : decode T.2.1 (pc + 7) = .ok (.invokespecial ic, 3)) (d9 : decode T.2.1 (pc + 10) = .ok (.athrow, 1)) (hown : T.1.cls = "BackupPlanner") (htx : (is, text) ∈ s_thr) (w : s_tw ik ic cls ix rx) (hc : 1 ≤ kc) (hs : 6 ≤ ks) (hst : (st.map fun v => v.category).sum ≤ 8)
    (k : s_GX T Φ (pc + 10) lv cls h n (kc - 1) (ks - 6)) : s_G T Φ pc lv st h n kc ks := by
  intro p l e R s m args below meth c X ad0 n0 A mc ms Qm C ad H locs cells slots ls S
  obtain ⟨w1, ⟨x0, x1, x2, x5⟩, w3, w4, w5, w6, w7⟩ := id w
  obtain ⟨sa, hsa⟩ := C.2.2.2.2.2.2.2.2.2.2.2.1.1.2.2.1 _ htx
  have hK := C.2.2.2.2.2.2.2.2.2.2.2.2.2.1
  have hcl := C.2.2.2.2.1
  rw [hown] at hcl
  refine s_mkXW (own := "BackupPlanner") (cls := cls) (text := text) (names := s_up2) (ik := ik) (is := is) (ic := ic) (sa := sa) (A := A) C.1 C.2.1 C.2.2.2.2.2.2.2.2.1 x0 x1 x2 x5 hcl w1 (by decide +kernel) (C.2.2.2.2.2.1 _ w3) (C.2.2.2.2.2.1 _ w4) hsa (w.at C.2.2.2.2.2.1 C.2.2.2.2.2.2.2.2.2.2.2.1.1.1)
    (fun v hv => ?_) C.2.2.2.2.2.2.2.2.2.2.2.1.2.1 C.2.2.2.2.2.2.2.2.2.2.2.1.2.2.1 S.2.2.2.2.2.1 (S.2.2.2.2.2.2.2.2.1.trans C.2.2.1.symm) d0 d3 d4 d6 d9 (Nat.lt_of_lt_of_le (by show 5 < 8; decide) (Nat.le_trans (Nat.le_add_left 8 _) hK.1)) ?_ (Nat.le_trans (Nat.add_le_add_left hc _) (Nat.le_trans S.2.2.2.2.2.2.1 hK.2.2.1)) (Nat.le_trans (Nat.add_le_add_left hs _) (Nat.le_trans S.2.2.2.2.2.2.2.1 hK.2.2.2)) ?_
  · rcases List.mem_cons.mp hv with rfl | hv
    · simp only [vx_ot, s_WL_good w3, Bool.or_true]
    · rcases List.mem_cons.mp hv with rfl | hv
      · simp only [vx_ot, s_WL_good w4, Bool.or_true]
      · exact w7 v hv
  · have h9 := s_cats (ad := ad) hst
    have h8 := hK.2.1
    show _ + (13 * 3 + 43) ≤ R.locals
    omega
  · intro q H1 ce z1 z2 z3 z4 z5 z6
    have hD := S.2.2.2.2.1
    refine k p l e R s m args below meth c X ad0 n0 A mc ms Qm C (st.map (s_rv ad)) q ce ad H1 locs (cells + 1) (slots + 6) ls ⟨S.1, S.2.1, S.2.2.1, S.2.2.2.1.kept (fun k x hx => z2 x.1 ((S.2.2.2.1 k x hx).lt)), hD, z3, ?_, ?_, S.2.2.2.2.2.2.2.2⟩ z4 z5 z6
    · have := S.2.2.2.2.2.2.1
      omega
    · have := S.2.2.2.2.2.2.2.1
      omega
theorem twIs : s_tw 127 131 "java/lang/IllegalStateException" 7 Bundle.six := ⟨by decide +kernel, ⟨by decide +kernel, by decide +kernel, by decide +kernel, by decide +kernel⟩, s_WL_of 890 (by decide +kernel) (by decide +kernel), s_WL_of 50 (by decide +kernel) (by decide +kernel), s_WL_all _ [32, 503, 512, 516, 519, 521, 504, 505, 57, 58, 506, 511, 517, 542, 493, 543, 495, 544, 497, 507, 509, 499, 538, 539, 541, 499, 901, 902, 903, 532, 532, 533, 534, 535, 535, 536, 537, 538, 900, 891, 893, 514, 894, 895, 896, 897, 502, 501, 898] (by decide +kernel) (by decide +kernel), by decide +kernel, by decide +kernel⟩
theorem twIa : s_tw 272 276 "java/lang/IllegalArgumentException" 7 Bundle.six := ⟨by decide +kernel, ⟨by decide +kernel, by decide +kernel, by decide +kernel, by decide +kernel⟩, s_WL_of 776 (by decide +kernel) (by decide +kernel), s_WL_of 38 (by decide +kernel) (by decide +kernel), s_WL_all _ [32, 503, 512, 516, 519, 521, 504, 505, 57, 58, 506, 511, 517, 542, 493, 543, 495, 544, 497, 507, 509, 499, 538, 539, 541, 499, 529, 530, 531, 532, 532, 533, 534, 535, 535, 536, 537, 538, 778, 482, 490, 491, 492, 494, 496, 498, 502, 501, 500] (by decide +kernel) (by decide +kernel), by decide +kernel, by decide +kernel⟩
theorem twIo : s_tw 277 281 "java/lang/IndexOutOfBoundsException" 7 Bundle.six := ⟨by decide +kernel, ⟨by decide +kernel, by decide +kernel, by decide +kernel, by decide +kernel⟩, s_WL_of 791 (by decide +kernel) (by decide +kernel), s_WL_of 35 (by decide +kernel) (by decide +kernel), s_WL_all _ [32, 503, 512, 516, 519, 521, 504, 505, 57, 58, 506, 511, 517, 542, 493, 543, 495, 544, 497, 507, 509, 499, 538, 539, 541, 499, 802, 803, 804, 532, 532, 533, 534, 535, 535, 536, 537, 538, 801, 792, 794, 515, 795, 796, 797, 798, 502, 501, 799] (by decide +kernel) (by decide +kernel), by decide +kernel, by decide +kernel⟩
/-- caught: the handler keeps the exception in a local and needs no local more -/
theorem g_catch {T : s_T} {Φ : s_P} {pc : Nat} {lv : s_V} {h : s_H} {n kc ks : Nat} {E : String} {i ln : Nat} (pre : List (Nat × Nat × Nat × Nat)) (x : Nat × Nat × Nat × Nat) (suf : List (Nat × Nat × Nat × Nat)) (hh : T.2.2.2.2.1 = pre ++ x :: suf)
    (hpass : ∀ z ∈ pre, (decide (z.1 ≤ pc) && decide (pc < z.2.1)) = false ∨ (z.2.2.2 ≠ 0 ∧ Cond.classLink T.1.cls z.2.2.2 "java/lang/IndexOutOfBoundsException" ∈ s_WL ∧ E = "java/lang/IllegalArgumentException"))
    (hx : (decide (x.1 ≤ pc) && decide (pc < x.2.1)) = true) (h0 : x.2.2.2 ≠ 0) (hl : Cond.classLink T.1.cls x.2.2.2 E ∈ s_WL) (hc : Cond.castable E E ∈ s_NW)
    (hd : (∃ j : Fin 4, decode T.2.1 x.2.2.1 = .ok (.astore_n j, 1) ∧ (j : Nat) = i ∧ ln = 1) ∨ (decode T.2.1 x.2.2.1 = .ok (.astore i, 2) ∧ ln = 2)) (hi : i < T.2.2.1)
    (k : s_G T Φ (x.2.2.1 + ln) (fun _ => none) [] h n kc ks) : s_GX T Φ pc lv E h n kc ks := by
  intro p l e R s m args below meth c X ad0 n0 A mc ms Qm C rest q ce ad H locs cells slots ls S h1 h2 h3
  have htab := C.2.2.2.2.2.2.1
  rw [hh] at htab
  have hcast : (Cond.castable E E).before args s = true := va_tabs rfl rfl (C.2.2.2.2.2.2.2.2.2.2.2.1.1.1 _ hc)
  refine vx_catch C.2.2.2.2.1 (tableOf pre) ⟨x.1, x.2.1, x.2.2.1, x.2.2.2⟩ (tableOf suf) (by rw [htab]; simp [tableOf]) (fun z hz => ?_) hx h0 (C.2.2.2.2.2.1 _ hl) hcast h1 h2 h3 ?_
  · obtain ⟨z', hz', rfl⟩ := List.mem_map.mp hz
    rcases hpass z' hz' with g | ⟨g1, g2, g3⟩
    · exact Or.inl g
    · exact Or.inr ⟨g1, _, C.2.2.2.2.2.1 _ g2, by rw [g3]; exact C.2.2.2.2.2.2.2.2.2.2.2.1.1.2.1⟩
  · have S0 := S.sub (lv' := fun _ => none) (fun i v q => by cases q) (Nat.le_refl _) (Nat.le_refl _)
    have fin : ∀ ls' : Array Slot, lv_has ls' T.2.2.1 ((i, Value.ref q) :: (s_ll (fun _ => none) T.2.2.1 ad).filter (fun q => !(q.1 == i) && !(q.1 + 1 == i && q.2.category == 2))) → W p l e R s m args below meth c H locs cells slots Qm (F0 m (x.2.2.1 + ln) ls' []) := fun ls' hl' =>
      k p l e R s m args below meth c X ad0 n0 A mc ms Qm C ad H locs cells slots ls' (S0.loc ⟨hl'.1, hl'.2.1, fun i v z => by cases z⟩)
    rcases hd with ⟨j, d, hj, rfl⟩ | ⟨d, rfl⟩
    · exact lv_astore_n C.1 C.2.1 d hj S0.2.2.2.2.2.2.2.2.has hi rfl fin
    · exact lv_astore C.1 C.2.1 d S0.2.2.2.2.2.2.2.2.has hi rfl fin
/-- an int by a wide index -/
theorem g_ldcw {T : s_T} {Φ : s_P} {pc : Nat} {lv : s_V} {st : List Value} {h : s_H} {n kc ks : Nat} {i : Nat} {v : Int32} (hd : decode T.2.1 pc = .ok (.ldc_w i, 3)) (hw : Cond.constant T.1.cls i v ∈ s_WL) (k : s_G T Φ (pc + 3) lv (.int v :: st) h n kc ks) : s_G T Φ pc lv st h n kc ks := by
  intro p l e R s m args below meth c X ad0 n0 A mc ms Qm C ad H locs cells slots ls S
  intro T9 hT X9
  obtain ⟨t, a, b⟩ := k p l e R s m args below meth c X ad0 n0 A mc ms Qm C ad H locs cells slots ls S T9 hT X9
  exact ⟨t, X9.ldcwInt C.1 C.2.2.2.2.1 (C.2.2.2.2.2.1 _ hw) (g := F0 m pc ls (st.map (s_rv ad))) rfl (by rw [C.2.1]; exact hd) _ a, b⟩
theorem g_callS_x {T : s_T} {Φ : s_P} {pc : Nat} {lv : s_V} {st : List Value} {h : s_H} {n kc ks : Nat} {T' : s_T} {as rest : List Value} {idx na mc' ms' : Nat} {P : Option Value → s_H → Prop} {PX : String → s_H → Prop} (M : s_Mt T' mc' ms' as h n (s_rp n P PX)) (hd : decode T.2.1 pc = .ok (.invokestatic idx, 3)) (cm : s_cm T' na) (hh : T'.2.2.2.2.1 = []) (hl : Cond.methodLink T.1.cls idx T'.1 ∈ s_WL) (hs : Cond.static T'.1 ∈ s_WL) (hdep : T'.2.2.2.2.2 + 1 ≤ T.2.2.2.2.2) (hst : st = as.reverse ++ rest) (hna : as.length = na) (hc : (rest.map fun v => v.category).sum ≤ 8) (hmc : mc' ≤ kc) (hms : ms' ≤ ks)
    (kk : ∀ v h', P v h' → s_G T Φ (pc + 3) lv (v.toList ++ rest) h' n (kc - mc') (ks - ms'))
    (kx : ∀ E h', PX E h' → s_GX T Φ pc lv E h' n (kc - mc') (ks - ms')) : s_G T Φ pc lv st h n kc ks := g_callS M hd cm hh hl hs hdep hst hna hc hmc hms s_rp.same (fun v h' q => kk v h' q.2) (fun E h' q => kx E h' q.2)
theorem g_callV_x {T : s_T} {Φ : s_P} {pc : Nat} {lv : s_V} {st : List Value} {h : s_H} {n kc ks : Nat} {T' : s_T} {as rest : List Value} {b : Nat} {idx na mc' ms' : Nat} {P : Option Value → s_H → Prop} {PX : String → s_H → Prop} (M : s_Mt T' mc' ms' (.ref b :: as) h n (s_rp n P PX)) (hd : decode T.2.1 pc = .ok (.invokevirtual idx, 3)) (cm : s_cm T' na) (hh : T'.2.2.2.2.1 = []) (hl : Cond.methodLink T.1.cls idx T'.1 ∈ s_WL) (hi : Cond.instanceMethod T'.1 ∈ s_WL) (hse : Cond.selects T'.1.cls T'.1 T'.1 ∈ s_WL) (hdep : T'.2.2.2.2.2 + 1 ≤ T.2.2.2.2.2) {ci : Nat} {q9 : vw_C} {fs : List Value} (hb : b < n) (hob : h b = .inr (ci, fs)) (hci : vwCl[ci]? = some q9) (hq9 : q9.1 = T'.1.cls) (hst : st = as.reverse ++ .ref b :: rest) (hna : as.length = na) (hc : (rest.map fun v => v.category).sum ≤ 8) (hmc : mc' ≤ kc) (hms : ms' ≤ ks)
    (kk : ∀ v h', P v h' → s_G T Φ (pc + 3) lv (v.toList ++ rest) h' n (kc - mc') (ks - ms'))
    (kx : ∀ E h', PX E h' → s_GX T Φ pc lv E h' n (kc - mc') (ks - ms')) : s_G T Φ pc lv st h n kc ks := g_callV M hd cm hh hl hi hse hdep hb hob hci hq9 hst hna hc hmc hms s_rp.same (fun v h' q => kk v h' q.2) (fun E h' q => kx E h' q.2)
