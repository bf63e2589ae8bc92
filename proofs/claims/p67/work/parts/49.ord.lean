/-! ENUM.ORDINAL, walked (no word says that its class is initialised) -/
theorem s_ordB {l : Launch} {R : Room} {p : Program} {e : Env} {below : List Frame} {s : State} {sargs : Array Value} {qa : Nat} {o : Int32} (hexec : p.tables.exec = Jvm.exec)
    (hcode : (Cond.code yJx29ce0_ordinal_8abf5 cJx29ce0_ordinal_8abf5 1 (some .int)).before sargs s = true) (hlink : (Cond.fieldLink "java/lang/Enum" 7 "java/lang/Enum" "ordinal" "I").before sargs s = true)
    {cf : ClassId} {kf : Class} {jf : Nat} {fd : Field} (hi : s.fieldFound? "java/lang/Enum" "ordinal" "I" = some (cf, kf, jf, fd)) (hst : fd.isStatic = false) (hframes : 1 ≤ R.frames) (hlocals : 8 + (1 + 11) ≤ R.locals) :
    vx_Back l R p e below s sargs yJx29ce0_ordinal_8abf5 3 8 (fun A a => a = #[.ref qa] ∧ ∃ cell, A.U.heap[qa]? = some cell ∧ cell.vm ≠ .unknown ∧ cell.slots[fd.slot]? = some (.int o))
      (fun A _ v B => v = some (.int o) ∧ B.U.heap = A.U.heap ∧ B.locs = A.locs ∧ B.cells = A.cells ∧ B.slots = A.slots) (fun _ _ _ _ => False) := by
  intro m meth c A g ig mk a X hg hsize hdg hW hn hp
  obtain ⟨rfl, cell, h1, h2, h3⟩ := hp
  obtain ⟨U, Ls, c0, s0⟩ := A
  dsimp only [Pt.U, Pt.locs, Pt.cells, Pt.slots] at X hn h1 ⊢
  have hpl : e.platform.magicAccessors = ({} : Platform).magicAccessors := by rw [X.admits.platform]
  have hcodeU : (Cond.code yJx29ce0_ordinal_8abf5 cJx29ce0_ordinal_8abf5 1 (some .int)).before sargs U = true := word_at X.warmed (Or.inl rfl) hcode
  obtain ⟨methY, cY, hmY, hcY, hbY, hlY, hretY, hlockY, -, -⟩ := Cond.code_spec hn hcodeU
  have h : At U g.method c below := by rw [hg]; exact X.here
  have hpn : U.plainMethod mk := State.plainMethod.of_named (x := yJx29ce0_ordinal_8abf5) (by decide +kernel) hn hmY
  have hent : entryFrame mk #[.ref qa] cY.maxLocals = { method := mk, pc := 0, locals := #[.val (.ref qa)], stack := [], locked := none } := by
    rw [hlY]
    rfl
  have hA : At ((U.setTop g).pushFrame (.java (entryFrame mk #[.ref qa] cY.maxLocals))) mk cY below := At.enter (g := g) h #[.ref qa] hmY hcY hpn
  rw [hent] at hA
  have hcl : s.vm.findClass "java/lang/Enum" = some mk.cls := by
    have := findClass_of_methodNamed hn
    rw [X.warmed.alike.findClass] at this
    exact this
  obtain ⟨ci, cc, kk, ii, ff, hff, hFL, hFR⟩ := Cond.fieldLink_spec hcl hlink e.platform hpl
  cases Option.some.inj (hi.symm.trans hff)
  obtain ⟨hkc, hfi⟩ := State.fieldFound?_spec hi
  obtain ⟨vm', hW', st⟩ := Steps.getfieldCold (tb := p.tables) (s₀ := s) (U := (U.setTop g).pushFrame (.java { method := mk, pc := 0, locals := #[.val (.ref qa)], stack := [], locked := none })) (f := { method := mk, pc := 1, locals := #[.val (.ref qa)], stack := [.ref qa], locked := none }) (e := e) (below := below) (index := 7) (a := qa) (rest := []) (cell := cell) (v := .int o) hA hexec (by rw [hbY]; exact dJx29ce0_ordinal_8abf5_1) X.warmed hFL hFR hkc hfi hst rfl h1 h2 h3
  refine Or.inl ⟨some (.int o), ⟨U.setVm vm', Ls, c0, s0⟩, X.noted hW', ⟨rfl, rfl, rfl, rfl, rfl⟩, ?_⟩
  rw [doInvoke_enter h.top [] hmY hcY hlockY (by rw [hlY]; rw [← hg] at *; exact X.notFull hsize hframes (by omega)), hent]
  have d0 : decode cY.code 0 = .ok (.aload_n 0, 1) := by rw [hbY]; exact dJx29ce0_ordinal_8abf5_0
  have d4 : decode cY.code 4 = .ok (.ireturn, 1) := by rw [hbY]; exact dJx29ce0_ordinal_8abf5_4
  jvm_step hA [hexec, d0, Value.isRef]
  refine st _ ?_
  have hB : At (((U.setVm vm').setTop g).pushFrame (.java { method := mk, pc := 0, locals := #[.val (.ref qa)], stack := [], locked := none })) mk cY below := hA.setVm (X.warmed.alike.symm.trans hW'.alike)
  show Steps p.tables e below ((((U.setVm vm').setTop g).pushFrame (.java { method := mk, pc := 0, locals := #[.val (.ref qa)], stack := [], locked := none })).setTop { method := mk, pc := 4, locals := #[.val (.ref qa)], stack := [.int o], locked := none }) _
  have h' : At (U.setVm vm') g.method c below := h.setVm (X.warmed.alike.symm.trans hW'.alike)
  have hmY' : (U.setVm vm').vm.method? mk = some methY := by
    show vm'.method? mk = some methY
    rw [hW'.alike.method?, ← X.warmed.alike.method?]
    exact hmY
  jvm_step hB [hexec, d4]
  refine ⟨methY, by simpa [State.pushFrame, State.setFrames] using hmY', .int, hretY, fun acts2 => ?_⟩
  have hfr := frames_entered (g := g) h'.top (.java { method := mk, pc := 0, locals := #[.val (.ref qa)], stack := [], locked := none })
  have hcg : (((U.setVm vm').setTop g).pushFrame (.java { method := mk, pc := 0, locals := #[.val (.ref qa)], stack := [], locked := none })).code? g.method = some c := by
    have := h'.code
    rw [State.code?_eq] at this ⊢
    simpa [State.pushFrame, State.setFrames] using this
  rw [doReturn_leave (g := g) (meth := methY) (cg := c) (ig := ig) (len := 3) (f := { method := mk, pc := 4, locals := #[.val (.ref qa)], stack := [], locked := none }) (v := some (narrow .int (.int o))) acts2 hfr (by simpa [State.pushFrame, State.setFrames] using hmY') hlockY rfl rfl hcg hdg, setFrames_entered h'.top, State.setTop_setTop]
  exact Steps.refl _
abbrev yO9 : MethodName := ⟨"BackupPlanner$Command", "ordinal", "()I"⟩
theorem wX6_110 : Cond.methodLink s_cN 110 yO9 ∈ s_WL := s_WL_of 675 (by decide +kernel) rfl
theorem wO_same : Cond.sameMethod s_eN "java/lang/Enum" "ordinal" "()I" ∈ s_WL := s_WL_of 676 (by decide +kernel) rfl
theorem wO_sel : Cond.selects s_eN yO9 yJx29ce0_ordinal_8abf5 ∈ s_WL := s_WL_of 678 (by decide +kernel) rfl
theorem wO_ins : Cond.instanceMethod yJx29ce0_ordinal_8abf5 ∈ s_WL := s_WL_of 679 (by decide +kernel) rfl
theorem wO_code : Cond.code yJx29ce0_ordinal_8abf5 cJx29ce0_ordinal_8abf5 1 (some .int) ∈ s_WL := s_WL_of 680 (by decide +kernel) rfl
theorem wO_fl : Cond.fieldLink "java/lang/Enum" 7 "java/lang/Enum" "ordinal" "I" ∈ s_WL := s_WL_of 1143 (by decide +kernel) rfl
theorem g_ord {T : s_T} {Φ : s_P} {pc : Nat} {lv : s_V} {st : List Value} {h : s_H} {n kc ks : Nat} {j : Nat} (hj : j < 10) (hcl : T.1.cls = s_cN) (hd : decode T.2.1 pc = .ok (.invokevirtual 110, 3)) (hcat : (st.map fun v => v.category).sum ≤ 8)
    (k : s_G T Φ (pc + 3) lv (.int (nI j) :: st) h n kc ks) : s_G T Φ pc lv (.ref (s_big + 100 + j) :: st) h n kc ks := by
  intro p l e R s m args below meth c X ad0 n0 A mc ms Qm C ad H locs cells slots ls S
  have hSP := (C.2.2.2.2.2.2.2.2.2.2.2.1).ag (S.2.2.1.big S.2.1)
  obtain ⟨g1, -, -, -, g5⟩ := hSP.2.en.2.2.2.2 j hj
  obtain ⟨cell, a1, a2, a3, -⟩ := g1.kept S.2.2.2.2.2.1.2.1
  obtain ⟨cf, kf, jf, fd, cell2, b1, b2, b3, b4, b5, -⟩ := g5.kept S.2.2.2.2.2.1.2.1
  have hR := C.2.2.2.2.2.2.2.2.2.2.2.2.2.1
  have hw := C.2.2.2.2.2.1
  have hown : s.vm.findClass s_cN = some m.cls := by
    have z := C.2.2.2.2.1
    rw [hcl] at z
    exact z
  have hdec : va_Decl s ⟨"java/lang/Enum", "ordinal", "()I"⟩ := by
    obtain ⟨mo, me, z1, z2, z3, z4⟩ := Cond.instanceMethod_spec (hw _ wO_ins)
    obtain ⟨me', co, z5, z6, z7, z8, z9, z10, z11, z12⟩ := Cond.code_spec z1 (hw _ wO_code)
    cases z2.symm.trans z5
    exact ⟨mo, me, z1, z2, z3, z12⟩
  intro Tm hT Xs
  subst hT
  have hB := s_ordB (l := l) (R := R) (p := p) (e := e) (below := below) (s := s) (sargs := args) (qa := ad (s_big + 100 + j)) (o := nI j) C.1 (hw _ wO_code) (hw _ wO_fl) b1 b2 (Nat.le_trans (by omega) hR.1) (Nat.le_trans (by omega) hR.2.1)
  rcases vx_callVU Xs C.1 (own := s_cN) (C := s_eN) (owner := "java/lang/Enum") (index := 110) (x := yO9) (y := yJx29ce0_ordinal_8abf5) (bytes := cJx29ce0_ordinal_8abf5) (maxL := 1) (ret := some .int) hown (hw _ wX6_110) (hw _ wO_same) hdec (by decide +kernel) (hw _ wO_sel) (hw _ wO_ins) (hw _ wO_code) hB a1 a2 a3
    (g := F0 m pc ls (.ref (ad (s_big + 100 + j)) :: st.map (s_rv ad))) rfl (S.2.2.2.2.2.2.2.2.1.trans C.2.2.1.symm) (argsL := []) (rest := st.map (s_rv ad)) (fun sig hs => by
      have z : parseMethodDescriptor yO9.desc = some ⟨[], some .int⟩ := by decide +kernel
      rw [z] at hs
      rw [← Option.some.inj hs]
      rfl) rfl (lv_room (s_cats hcat)) (by rw [C.2.1]; exact hd) (fun vm₁ hW => ⟨rfl, cell2, b3, b4, b5⟩) with ⟨v, vm₁, ⟨U', l2, c2, s2⟩, hW₁, X', ⟨e0, e1, e2, e3, e4⟩, go⟩ | ⟨q, vm₁, B, hW₁, X', hF, go⟩
  · dsimp only [Pt.U, Pt.locs, Pt.cells, Pt.slots] at X' e1 e2 e3 e4 go
    subst e2; subst e3; subst e4
    obtain ⟨t, y1, y2⟩ := k p l e R s m args below meth c X ad0 n0 A mc ms Qm C ad Tm.heap _ _ _ ls S U' e1 X'
    refine ⟨t, go t ?_, y2⟩
    rw [e0]
    exact y1
  · exact absurd hF id
