/-! ROWS FOR THE JDK's TEXT BUILDER, and for the script (written by wip/p67/jrows.py) -/
theorem s_SQ.sd {ad : Nat → Nat} {A : Nat → Prop} {U : State} {H : Heap} (h : s_SQ ad A U H) : s_SD ad A U H := h.2.2.2.2.1.2
abbrev s_bN : String := "java/lang/AbstractStringBuilder"
theorem wJ6_83 : Cond.fieldLink RJ6 83 RJ6 "DigitOnes" "[B" ∈ s_WL := s_WL_of 432 (by decide +kernel) rfl
theorem wJ6_87 : Cond.fieldLink RJ6 87 RJ6 "DigitTens" "[B" ∈ s_WL := s_WL_of 434 (by decide +kernel) rfl
theorem wJ5_18 : Cond.fieldLink RJ5 18 s_sN "COMPACT_STRINGS" "Z" ∈ s_WL := s_WL_of 270 (by decide +kernel) rfl
theorem g_kdo {T : s_T} {Φ : s_P} {pc : Nat} {lv : s_V} {st : List Value} {h : s_H} {n kc ks : Nat} (hcl : T.1.cls = RJ6) (hd : decode T.2.1 pc = .ok (.getstatic 83, 3))
    (k : s_G T Φ (pc + 3) lv (.ref (s_big + 210) :: st) h n kc ks) : s_G T Φ pc lv (st) h n kc ks := by
  intro p l e R s m args below meth c X ad0 n0 A mc ms Qm C ad H locs cells slots ls S
  have hSP := (C.2.2.2.2.2.2.2.2.2.2.2.1).ag (S.2.2.1.big S.2.1)
  exact va_gets C.1 C.2.1 hSP.2.sd.1 S.2.2.2.2.2.1 (by have z := C.2.2.2.2.1; rw [hcl] at z; exact z) (C.2.2.2.2.2.1 _ wJ6_83) (fun _ z => z) hd (k p l e R s m args below meth c X ad0 n0 A mc ms Qm C ad H locs cells slots ls S)
theorem g_kdt {T : s_T} {Φ : s_P} {pc : Nat} {lv : s_V} {st : List Value} {h : s_H} {n kc ks : Nat} (hcl : T.1.cls = RJ6) (hd : decode T.2.1 pc = .ok (.getstatic 87, 3))
    (k : s_G T Φ (pc + 3) lv (.ref (s_big + 211) :: st) h n kc ks) : s_G T Φ pc lv (st) h n kc ks := by
  intro p l e R s m args below meth c X ad0 n0 A mc ms Qm C ad H locs cells slots ls S
  have hSP := (C.2.2.2.2.2.2.2.2.2.2.2.1).ag (S.2.2.1.big S.2.1)
  exact va_gets C.1 C.2.1 hSP.2.sd.2.2.1 S.2.2.2.2.2.1 (by have z := C.2.2.2.2.1; rw [hcl] at z; exact z) (C.2.2.2.2.2.1 _ wJ6_87) (fun _ z => z) hd (k p l e R s m args below meth c X ad0 n0 A mc ms Qm C ad H locs cells slots ls S)
theorem g_kcs5 {T : s_T} {Φ : s_P} {pc : Nat} {lv : s_V} {st : List Value} {h : s_H} {n kc ks : Nat} (hcl : T.1.cls = RJ5) (hd : decode T.2.1 pc = .ok (.getstatic 18, 3))
    (k : s_G T Φ (pc + 3) lv (.int 1 :: st) h n kc ks) : s_G T Φ pc lv (st) h n kc ks := by
  intro p l e R s m args below meth c X ad0 n0 A mc ms Qm C ad H locs cells slots ls S
  have hSP := (C.2.2.2.2.2.2.2.2.2.2.2.1).ag (S.2.2.1.big S.2.1)
  exact va_gets C.1 C.2.1 hSP.2.2.2.1 S.2.2.2.2.2.1 (by have z := C.2.2.2.2.1; rw [hcl] at z; exact z) (C.2.2.2.2.2.1 _ wJ5_18) (fun _ z => z) hd (k p l e R s m args below meth c X ad0 n0 A mc ms Qm C ad H locs cells slots ls S)
theorem g_kdob {T : s_T} {Φ : s_P} {pc : Nat} {lv : s_V} {st : List Value} {h : s_H} {n kc ks : Nat} {j : Nat} {x : Int32} (hj : j < 100) (hx : x = nI j) (hd : decode T.2.1 pc = .ok (.baload, 1))
    (k : s_G T Φ (pc + 1) lv (.int (nI (48 + j % 10)) :: st) h n kc ks) : s_G T Φ pc lv (.int x :: .ref (s_big + 210) :: st) h n kc ks := by
  intro p l e R s m args below meth c X ad0 n0 A mc ms Qm C ad H locs cells slots ls S
  have hSP := (C.2.2.2.2.2.2.2.2.2.2.2.1).ag (S.2.2.1.big S.2.1)
  subst hx
  exact va_tb C.1 C.2.1 hSP.2.sd.2.1 S.2.2.2.2.2.1 (fun z => z.elim (fun z => nI_pos (by omega) z) (fun z => by rw [nI_clamp (by omega)] at z; omega)) (by rw [nI_clamp (by omega)]; rfl) hd (k p l e R s m args below meth c X ad0 n0 A mc ms Qm C ad H locs cells slots ls S)
theorem g_kdtb {T : s_T} {Φ : s_P} {pc : Nat} {lv : s_V} {st : List Value} {h : s_H} {n kc ks : Nat} {j : Nat} {x : Int32} (hj : j < 100) (hx : x = nI j) (hd : decode T.2.1 pc = .ok (.baload, 1))
    (k : s_G T Φ (pc + 1) lv (.int (nI (48 + j / 10)) :: st) h n kc ks) : s_G T Φ pc lv (.int x :: .ref (s_big + 211) :: st) h n kc ks := by
  intro p l e R s m args below meth c X ad0 n0 A mc ms Qm C ad H locs cells slots ls S
  have hSP := (C.2.2.2.2.2.2.2.2.2.2.2.1).ag (S.2.2.1.big S.2.1)
  subst hx
  exact va_tb C.1 C.2.1 hSP.2.sd.2.2.2.1 S.2.2.2.2.2.1 (fun z => z.elim (fun z => nI_pos (by omega) z) (fun z => by rw [nI_clamp (by omega)] at z; omega)) (by rw [nI_clamp (by omega)]; rfl) hd (k p l e R s m args below meth c X ad0 n0 A mc ms Qm C ad H locs cells slots ls S)
theorem cpJ7_150 : Cond.methodLink RJ7 150 arraycopyName ∈ s_WL ∧ Cond.native arraycopyName ∈ s_WL ∧ Cond.static arraycopyName ∈ s_WL ∧ Cond.initialized "java/lang/System" ∈ s_WL := ⟨s_WL_of 336 (by decide +kernel) rfl, s_WL_of 338 (by decide +kernel) rfl, s_WL_of 337 (by decide +kernel) rfl, s_WL_of 40 (by decide +kernel) rfl⟩
theorem cpJ0_212 : Cond.methodLink RJ0 212 arraycopyName ∈ s_WL ∧ Cond.native arraycopyName ∈ s_WL ∧ Cond.static arraycopyName ∈ s_WL ∧ Cond.initialized "java/lang/System" ∈ s_WL := ⟨s_WL_of 411 (by decide +kernel) rfl, s_WL_of 338 (by decide +kernel) rfl, s_WL_of 337 (by decide +kernel) rfl, s_WL_of 40 (by decide +kernel) rfl⟩
theorem g_copyb {T : s_T} {Φ : s_P} {pc : Nat} {lv : s_V} {st : List Value} {h : s_H} {n kc ks : Nat} {a b la lb sp dp m9 : Nat} {x y z : Int32} {f g : Nat → Int32} {idx : Nat} (hd : decode T.2.1 pc = .ok (.invokestatic idx, 3)) (hw : Cond.methodLink T.1.cls idx arraycopyName ∈ s_WL ∧ Cond.native arraycopyName ∈ s_WL ∧ Cond.static arraycopyName ∈ s_WL ∧ Cond.initialized "java/lang/System" ∈ s_WL)
    (hoa : h a = .inl (2, la, .inl f)) (hob : h b = .inl (2, lb, .inl g)) (ha : a < n) (hb : b < n) (h1 : x = nI sp) (h2 : y = nI dp) (h3 : z = nI m9) (hs : sp + m9 ≤ la) (ht : dp + m9 ≤ lb) (hl : la < 2147483648 ∧ lb < 2147483648) (hfit : ∀ i, i < m9 → fits .byte (.int (f (sp + i))) = true) (hc : (st.map fun v => v.category).sum ≤ 8)
    (k : ∀ h1, h1 = s_up h b (.inl (2, lb, .inl (va_cpy f g sp dp m9))) → s_G T Φ (pc + 3) lv st h1 n kc ks) : s_G T Φ pc lv (.int z :: .int y :: .ref b :: .int x :: .ref a :: st) h n kc ks := by
  intro p l e R s m args below meth c X ad0 n0 A mc ms Qm C ad H locs cells slots ls S
  subst h1; subst h2; subst h3
  have hat := s_ws_at (dA := X.2) (ad := ad) (h := h) ha
  have hbt := s_ws_at (dA := X.2) (ad := ad) (h := h) hb
  rw [hoa] at hat
  rw [hob] at hbt
  have e1 : (nI sp).toNatClampNeg = sp := nI_clamp (by omega)
  have e2 : (nI dp).toNatClampNeg = dp := nI_clamp (by omega)
  have e3 : (nI m9).toNatClampNeg = m9 := nI_clamp (by omega)
  have hR := C.2.2.2.2.2.2.2.2.2.2.2.2.2.1
  have hcat : ((st.map (s_rv ad)).map fun v => v.category).sum ≤ 8 := by
    rw [List.map_map, show ((fun v : Value => v.category) ∘ s_rv ad) = fun v => v.category from funext (s_cat ad)]
    exact hc
  refine va_copyi C.1 C.2.1 (C.2.2.1.trans S.2.2.2.2.2.2.2.2.1.symm) C.2.2.2.2.1 (C.2.2.2.2.2.1 _ hw.1) (C.2.2.2.2.2.1 _ hw.2.1) (C.2.2.2.2.2.1 _ hw.2.2.1) (C.2.2.2.2.2.1 _ hw.2.2.2) C.2.2.2.2.2.2.2.2.2.2.1 S.2.2.2.1 S.2.2.2.2.1 S.2.2.2.2.2.1 a b 2 2 (c0 := X.2 2) (c1 := X.2 2) (n0 := la) (n1 := lb) (f := f) (g := g) (ty := .byte) hat hbt rfl rfl rfl (nI_pos (by omega)) (nI_pos (by omega)) (nI_pos (by omega)) (by rw [e1, e3]; exact hs) (by rw [e2, e3]; exact ht) (fun i hi => by rw [e1]; rw [e3] at hi; exact hfit i hi) (by omega) (Nat.le_trans (Nat.add_le_add_right hcat _) (Nat.le_trans (Nat.le_trans (show 8 + (nativeFrameWords "java/lang/System" "arraycopy" 5 + 11) ≤ 200 by decide +kernel) (Nat.le_add_left _ _)) hR.2.1)) hd ?_
  rw [e1, e2, e3]
  exact (fun H1 locs1 hP hD hS => k _ rfl p l e R s m args below meth c X ad0 n0 A mc ms Qm C ad H1 locs1 cells slots ls (S.heap hb rfl hP hD hS))
theorem g_copyt {T : s_T} {Φ : s_P} {pc : Nat} {lv : s_V} {st : List Value} {h : s_H} {n kc ks : Nat} {i b lb sp dp m9 : Nat} {x y z : Int32} {g : Nat → Int32} {idx : Nat} (hd : decode T.2.1 pc = .ok (.invokestatic idx, 3)) (hw : Cond.methodLink T.1.cls idx arraycopyName ∈ s_WL ∧ Cond.native arraycopyName ∈ s_WL ∧ Cond.static arraycopyName ∈ s_WL ∧ Cond.initialized "java/lang/System" ∈ s_WL)
    (hi : i < 14) (hob : h b = .inl (2, lb, .inl g)) (hb : b < n) (h1 : x = nI sp) (h2 : y = nI dp) (h3 : z = nI m9) (hs : sp + m9 ≤ s_len.getD i 0) (ht : dp + m9 ≤ lb) (hl : lb < 2147483648) (hfit : ∀ j, j < m9 → fits .byte (.int ((s_byt.getD i []).getD (sp + j) 0)) = true) (hc : (st.map fun v => v.category).sum ≤ 8)
    (k : ∀ h1, h1 = s_up h b (.inl (2, lb, .inl (va_cpy (fun j => (s_byt.getD i []).getD j 0) g sp dp m9))) → s_G T Φ (pc + 3) lv st h1 n kc ks) : s_G T Φ pc lv (.int z :: .int y :: .ref b :: .int x :: .ref (s_big + 300 + i) :: st) h n kc ks := by
  intro p l e R s m args below meth c X ad0 n0 A mc ms Qm C ad H locs cells slots ls S
  have hSP := (C.2.2.2.2.2.2.2.2.2.2.2.1).ag (S.2.2.1.big S.2.1)
  subst h1; subst h2; subst h3
  have hl9 := k_len i hi
  have hbt := s_ws_at (dA := X.2) (ad := ad) (h := h) hb
  rw [hob] at hbt
  have e1 : (nI sp).toNatClampNeg = sp := nI_clamp (by omega)
  have e2 : (nI dp).toNatClampNeg = dp := nI_clamp (by omega)
  have e3 : (nI m9).toNatClampNeg = m9 := nI_clamp (by omega)
  have hR := C.2.2.2.2.2.2.2.2.2.2.2.2.2.1
  have hcat : ((st.map (s_rv ad)).map fun v => v.category).sum ≤ 8 := by
    rw [List.map_map, show ((fun v : Value => v.category) ∘ s_rv ad) = fun v => v.category from funext (s_cat ad)]
    exact hc
  refine vk_copyt C.1 C.2.1 (C.2.2.1.trans S.2.2.2.2.2.2.2.2.1.symm) C.2.2.2.2.1 (C.2.2.2.2.2.1 _ hw.1) (C.2.2.2.2.2.1 _ hw.2.1) (C.2.2.2.2.2.1 _ hw.2.2.1) (C.2.2.2.2.2.1 _ hw.2.2.2) C.2.2.2.2.2.2.2.2.2.2.1 S.2.2.2.1 S.2.2.2.2.1 S.2.2.2.2.2.1 (f := fun j => (s_byt.getD i []).getD j 0) (hSP.2.str.1 i hi).2.2.2 b 2 (c1 := X.2 2) (n1 := lb) (g := g) hbt rfl (nI_pos (by omega)) (nI_pos (by omega)) (nI_pos (by omega)) (by rw [e1, e3]; exact hs) (by rw [e2, e3]; exact ht) (fun i hi => by rw [e1]; rw [e3] at hi; exact hfit i hi) (by omega) (Nat.le_trans (Nat.add_le_add_right hcat _) (Nat.le_trans (Nat.le_trans (show 8 + (nativeFrameWords "java/lang/System" "arraycopy" 5 + 11) ≤ 200 by decide +kernel) (Nat.le_add_left _ _)) hR.2.1)) hd ?_
  rw [e1, e2, e3]
  exact (fun H1 locs1 hP hD hS => k _ rfl p l e R s m args below meth c X ad0 n0 A mc ms Qm C ad H1 locs1 cells slots ls (S.heap hb rfl hP hD hS))
theorem g_callSg {T : s_T} {Φ : s_P} {pc : Nat} {lv : s_V} {st : List Value} {h : s_H} {n kc ks : Nat} {T' : s_T} {as rest : List Value} {Ψ : s_P} {mc' ms' idx na : Nat} (M : s_Mt T' mc' ms' as h n Ψ) (hd : decode T.2.1 pc = .ok (.invokestatic idx, 3)) (cm : s_cm T' na) (hh : T'.2.2.2.2.1 = []) (hl : Cond.methodLink T.1.cls idx T'.1 ∈ s_WL) (hs : Cond.static T'.1 ∈ s_WL) (hdep : T'.2.2.2.2.2 + 1 ≤ T.2.2.2.2.2) (hst : st = as.reverse ++ rest) (hna : as.length = na) (hc : (rest.map fun v => v.category).sum ≤ 8) (hmc : mc' ≤ kc) (hms : ms' ≤ ks) (hx : ∀ E h' n', ¬ Ψ (.inr E) h' n') (hlv : ∀ i v, lv i = some v → s_vo n v) (hrs : ∀ v ∈ rest, s_vo n v)
    (kk : ∀ v h' n', Ψ (.inl v) h' n' → n ≤ n' → s_G T Φ (pc + 3) lv (v.toList ++ rest) h' n' (kc - mc') (ks - ms')) : s_G T Φ pc lv st h n kc ks := by
  refine g_callN (rest := rest) hmc hms hx hlv hrs ?_ kk
  intro p l e R s m args below meth c X ad0 n0 A mc ms Qm C ad H locs cells slots ls S
  have hM := M l C.2.2.2.2.2.2.2.2.1 X ad H.size
  have hR := s_room (mc' := mc') (ms' := ms') C.2.2.2.2.2.2.2.2.2.2.2.2.2.1 hdep cm.2.2.1
  exact ⟨_, vx_runS ⟨C.1, C.2.1, C.2.2.1, C.2.2.2.2.1, C.2.2.2.2.2.1⟩ hM (va_cwS (bytes := T'.2.1) (maxL := T'.2.2.1) (ret := T'.2.2.2.1) (ws' := s_WL) na C.2.2.2.2.2.1 (s_good (s_inS cm hl hs)) (by rw [s_hd_of hh]) rfl rfl cm.2.1 hR) (s_pre C S as) rfl (by rw [List.length_map]; exact hna) S.2.2.2.2.2.2.2.2.1 (by rw [hst]; simp) (lv_room (s_cats hc)) hd ⟨Nat.le_trans (Nat.add_le_add_left hmc _) (Nat.le_trans S.2.2.2.2.2.2.1 C.2.2.2.2.2.2.2.2.2.2.2.2.2.1.2.2.1), Nat.le_trans (Nat.add_le_add_left hms _) (Nat.le_trans S.2.2.2.2.2.2.2.1 C.2.2.2.2.2.2.2.2.2.2.2.2.2.1.2.2.2)⟩⟩
theorem g_callVg {T : s_T} {Φ : s_P} {pc : Nat} {lv : s_V} {st : List Value} {h : s_H} {n kc ks : Nat} {T' : s_T} {as rest : List Value} {b : Nat} {Ψ : s_P} {mc' ms' idx na : Nat} (M : s_Mt T' mc' ms' (.ref b :: as) h n Ψ) (hd : decode T.2.1 pc = .ok (.invokevirtual idx, 3)) (cm : s_cm T' na) (hh : T'.2.2.2.2.1 = []) (hl : Cond.methodLink T.1.cls idx T'.1 ∈ s_WL) (hi : Cond.instanceMethod T'.1 ∈ s_WL) (hse : Cond.selects T'.1.cls T'.1 T'.1 ∈ s_WL) (hdep : T'.2.2.2.2.2 + 1 ≤ T.2.2.2.2.2) {ci : Nat} {fs : List Value} {T9 : u_T} {N9 : Nat} (hb : b < n) (hob : h b = .inr (ci, fs)) (hci : vwCl[ci]? = some (T'.1.cls, T9, N9)) (hst : st = as.reverse ++ .ref b :: rest) (hna : as.length = na) (hc : (rest.map fun v => v.category).sum ≤ 8) (hmc : mc' ≤ kc) (hms : ms' ≤ ks) (hx : ∀ E h' n', ¬ Ψ (.inr E) h' n') (hlv : ∀ i v, lv i = some v → s_vo n v) (hrs : ∀ v ∈ rest, s_vo n v)
    (kk : ∀ v h' n', Ψ (.inl v) h' n' → n ≤ n' → s_G T Φ (pc + 3) lv (v.toList ++ rest) h' n' (kc - mc') (ks - ms')) : s_G T Φ pc lv st h n kc ks := by
  refine g_callN (rest := rest) hmc hms hx hlv hrs ?_ kk
  intro p l e R s m args below meth c X ad0 n0 A mc ms Qm C ad H locs cells slots ls S
  have hM := M l C.2.2.2.2.2.2.2.2.1 X ad H.size
  have hR := s_room (mc' := mc') (ms' := ms') C.2.2.2.2.2.2.2.2.2.2.2.2.2.1 hdep cm.2.2.1
  have hat := s_ws_at (dA := X.2) (ad := ad) (h := h) hb
  rw [hob] at hat
  have hrc := va_recv (fs := fs.map (s_rv ad)) C.2.2.2.2.2.2.2.2.2.2.1 S.2.2.2.1 hci hat
  have hpv : PreV s H T'.1.cls (ad b) (va_Pc ((.ref b :: as).map (s_rv ad)) (fun U => U.heap.size = H.size ∧ s_PC X ad n h U)) (as.map (s_rv ad)) := ⟨(s_pre C S (.ref b :: as)).1, hrc, (s_pre C S (.ref b :: as)).2⟩
  exact ⟨_, vx_runV ⟨C.1, C.2.1, C.2.2.1, C.2.2.2.2.1, C.2.2.2.2.2.1⟩ hM (cwV (bytes := T'.2.1) (maxL := T'.2.2.1) (ret := T'.2.2.2.1) (ws' := s_WL) na C.2.2.2.2.2.1 (s_good (s_inV cm hl hi hse)) (by rw [s_hd_of hh]) rfl rfl ⟨rfl, cm.2.1⟩ hR) hpv rfl (by rw [List.length_map]; exact hna) S.2.2.2.2.2.2.2.2.1 (by rw [hst]; simp [s_rv]) (lv_room (s_cats hc)) hd ⟨Nat.le_trans (Nat.add_le_add_left hmc _) (Nat.le_trans S.2.2.2.2.2.2.1 C.2.2.2.2.2.2.2.2.2.2.2.2.2.1.2.2.1), Nat.le_trans (Nat.add_le_add_left hms _) (Nat.le_trans S.2.2.2.2.2.2.2.1 C.2.2.2.2.2.2.2.2.2.2.2.2.2.1.2.2.2)⟩⟩
theorem s_inU {T' : s_T} {own C : String} {idx na : Nat} (cm : s_cm T' na) (hl : Cond.methodLink own idx T'.1 ∈ s_WL) (hsm : Cond.sameMethod T'.1.cls T'.1.cls T'.1.name T'.1.desc ∈ s_WL) (hi : Cond.instanceMethod T'.1 ∈ s_WL) (hse : Cond.selects C T'.1 T'.1 ∈ s_WL) : ∀ w ∈ va_wsU own idx C T'.1.cls T'.1 T'.1 (s_hd T' :: s_WL), w ∈ s_WL := by
  intro w hw
  unfold va_wsU at hw
  rcases List.mem_append.mp hw with h | h
  · simp only [List.mem_cons, List.not_mem_nil, or_false] at h
    rcases h with rfl | rfl | rfl | rfl | rfl
    · exact hl
    · exact hsm
    · exact hse
    · exact hi
    · exact cm.2.2.2
  · exact s_in2 cm.1 w h
theorem s_inSU {T' : s_T} {own : String} {idx na : Nat} (cm : s_cm T' na) (hl : Cond.methodLink own idx T'.1 ∈ s_WL) (hsm : Cond.sameMethod T'.1.cls T'.1.cls T'.1.name T'.1.desc ∈ s_WL) (hsup : Cond.superclass own T'.1.cls ∈ s_WL) (hi : Cond.instanceMethod T'.1 ∈ s_WL) : ∀ w ∈ va_wsSU own idx T'.1 (s_hd T' :: s_WL), w ∈ s_WL := by
  intro w hw
  unfold va_wsSU at hw
  rcases List.mem_append.mp hw with h | h
  · simp only [List.mem_cons, List.not_mem_nil, or_false] at h
    rcases h with rfl | rfl | rfl | rfl | rfl
    · exact hl
    · exact hsm
    · exact hsup
    · exact hi
    · exact cm.2.2.2
  · exact s_in2 cm.1 w h
theorem s_inO {T' : s_T} {own C : String} {x : MethodName} {idx na : Nat} (cm : s_cm T' na) (hl : Cond.methodLink own idx x ∈ s_WL) (hsm : Cond.sameMethod x.cls x.cls x.name x.desc ∈ s_WL) (hx : Cond.instanceMethod x ∈ s_WL) (hi : Cond.instanceMethod T'.1 ∈ s_WL) (hse : Cond.selects C x T'.1 ∈ s_WL) : ∀ w ∈ va_wsO own idx C x.cls x T'.1 (s_hd T' :: s_WL), w ∈ s_WL := by
  intro w hw
  unfold va_wsO at hw
  rcases List.mem_append.mp hw with h | h
  · simp only [List.mem_cons, List.not_mem_nil, or_false] at h
    rcases h with rfl | rfl | rfl | rfl | rfl | rfl
    · exact hl
    · exact hsm
    · exact hx
    · exact hse
    · exact hi
    · exact cm.2.2.2
  · exact s_in2 cm.1 w h
theorem g_callUg {T : s_T} {Φ : s_P} {pc : Nat} {lv : s_V} {st : List Value} {h : s_H} {n kc ks : Nat} {T' : s_T} {as rest : List Value} {b : Nat} {Ψ : s_P} {mc' ms' idx na : Nat} (M : s_Mt T' mc' ms' (.ref b :: as) h n Ψ) (hd : decode T.2.1 pc = .ok (.invokevirtual idx, 3)) (cm : s_cm T' na) (hh : T'.2.2.2.2.1 = []) (hl : Cond.methodLink T.1.cls idx T'.1 ∈ s_WL) (hsm : Cond.sameMethod T'.1.cls T'.1.cls T'.1.name T'.1.desc ∈ s_WL) (hi : Cond.instanceMethod T'.1 ∈ s_WL) (hse : Cond.selects RJ4 T'.1 T'.1 ∈ s_WL) (hdep : T'.2.2.2.2.2 + 1 ≤ T.2.2.2.2.2) (hb : b < n) {fs : List Value} (hob : h b = .inr (8, fs)) (hst : st = as.reverse ++ .ref b :: rest) (hna : as.length = na) (hc : (rest.map fun v => v.category).sum ≤ 8) (hmc : mc' ≤ kc) (hms : ms' ≤ ks) (hx : ∀ E h' n', ¬ Ψ (.inr E) h' n') (hlv : ∀ i v, lv i = some v → s_vo n v) (hrs : ∀ v ∈ rest, s_vo n v)
    (kk : ∀ v h' n', Ψ (.inl v) h' n' → n ≤ n' → s_G T Φ (pc + 3) lv (v.toList ++ rest) h' n' (kc - mc') (ks - ms')) : s_G T Φ pc lv st h n kc ks := by
  refine g_callN (rest := rest) hmc hms hx hlv hrs ?_ kk
  intro p l e R s m args below meth c X ad0 n0 A mc ms Qm C ad H locs cells slots ls S
  have hM := M l C.2.2.2.2.2.2.2.2.1 X ad H.size
  have hR := s_room (mc' := mc') (ms' := ms') C.2.2.2.2.2.2.2.2.2.2.2.2.2.1 hdep cm.2.2.1
  have hat := s_ws_at (dA := X.2) (ad := ad) (h := h) hb
  rw [hob] at hat
  have hrc := va_recv (fs := fs.map (s_rv ad)) C.2.2.2.2.2.2.2.2.2.2.1 S.2.2.2.1 (ci := 8) (q := (RJ4, TJ4, 4)) rfl hat
  have hpv : PreV s H RJ4 (ad b) (va_Pc ((.ref b :: as).map (s_rv ad)) (fun U => U.heap.size = H.size ∧ s_PC X ad n h U)) (as.map (s_rv ad)) := ⟨(s_pre C S (.ref b :: as)).1, hrc, (s_pre C S (.ref b :: as)).2⟩
  exact ⟨_, vx_runU ⟨C.1, C.2.1, C.2.2.1, C.2.2.2.2.1, C.2.2.2.2.2.1⟩ hM (va_cwU (C := RJ4) (owner := T'.1.cls) (bytes := T'.2.1) (maxL := T'.2.2.1) (ret := T'.2.2.2.1) (ws' := s_WL) na C.2.2.2.2.2.1 (s_good (s_inU cm hl hsm hi hse)) (by rw [s_hd_of hh]) rfl rfl rfl cm.2.1 hR) hpv rfl (by rw [List.length_map]; exact hna) S.2.2.2.2.2.2.2.2.1 (by rw [hst]; simp [s_rv]) (lv_room (s_cats hc)) hd ⟨Nat.le_trans (Nat.add_le_add_left hmc _) (Nat.le_trans S.2.2.2.2.2.2.1 C.2.2.2.2.2.2.2.2.2.2.2.2.2.1.2.2.1), Nat.le_trans (Nat.add_le_add_left hms _) (Nat.le_trans S.2.2.2.2.2.2.2.1 C.2.2.2.2.2.2.2.2.2.2.2.2.2.1.2.2.2)⟩⟩
theorem g_callOg {T : s_T} {Φ : s_P} {pc : Nat} {lv : s_V} {st : List Value} {h : s_H} {n kc ks : Nat} {T' : s_T} {as rest : List Value} {b : Nat} {Ψ : s_P} {mc' ms' idx na : Nat} (M : s_Mt T' mc' ms' (.ref b :: as) h n Ψ) (x : MethodName) (hd : decode T.2.1 pc = .ok (.invokevirtual idx, 3)) (cm : s_cm T' na) (hh : T'.2.2.2.2.1 = []) (hl : Cond.methodLink T.1.cls idx x ∈ s_WL) (hsm : Cond.sameMethod x.cls x.cls x.name x.desc ∈ s_WL) (hx9 : Cond.instanceMethod x ∈ s_WL) {b0 : ByteArray} {m0 : Nat} {r0 : Option FieldType} (h0 : Cond.code x b0 m0 r0 ∈ s_WL) (hdx : x.cls ≠ "java/lang/invoke/MethodHandle" ∧ x.cls ≠ "java/lang/invoke/VarHandle" ∧ (parseMethodDescriptor x.desc).map (fun d => d.parameters.length) = some na) (hi : Cond.instanceMethod T'.1 ∈ s_WL) (hse : Cond.selects RJ4 x T'.1 ∈ s_WL) (hdep : T'.2.2.2.2.2 + 1 ≤ T.2.2.2.2.2) (hb : b < n) {fs : List Value} (hob : h b = .inr (8, fs)) (hst : st = as.reverse ++ .ref b :: rest) (hna : as.length = na) (hc : (rest.map fun v => v.category).sum ≤ 8) (hmc : mc' ≤ kc) (hms : ms' ≤ ks) (hx : ∀ E h' n', ¬ Ψ (.inr E) h' n') (hlv : ∀ i v, lv i = some v → s_vo n v) (hrs : ∀ v ∈ rest, s_vo n v)
    (kk : ∀ v h' n', Ψ (.inl v) h' n' → n ≤ n' → s_G T Φ (pc + 3) lv (v.toList ++ rest) h' n' (kc - mc') (ks - ms')) : s_G T Φ pc lv st h n kc ks := by
  refine g_callN (rest := rest) hmc hms hx hlv hrs ?_ kk
  intro p l e R s m args below meth c X ad0 n0 A mc ms Qm C ad H locs cells slots ls S
  have hM := M l C.2.2.2.2.2.2.2.2.1 X ad H.size
  have hR := s_room (mc' := mc') (ms' := ms') C.2.2.2.2.2.2.2.2.2.2.2.2.2.1 hdep cm.2.2.1
  have hat := s_ws_at (dA := X.2) (ad := ad) (h := h) hb
  rw [hob] at hat
  have hrc := va_recv (fs := fs.map (s_rv ad)) C.2.2.2.2.2.2.2.2.2.2.1 S.2.2.2.1 (ci := 8) (q := (RJ4, TJ4, 4)) rfl hat
  have hpv : PreV s H RJ4 (ad b) (va_Pc ((.ref b :: as).map (s_rv ad)) (fun U => U.heap.size = H.size ∧ s_PC X ad n h U)) (as.map (s_rv ad)) := ⟨(s_pre C S (.ref b :: as)).1, hrc, (s_pre C S (.ref b :: as)).2⟩
  exact ⟨_, vx_runU ⟨C.1, C.2.1, C.2.2.1, C.2.2.2.2.1, C.2.2.2.2.2.1⟩ hM (va_cwO (C := RJ4) (owner := x.cls) (x := x) (bytes := T'.2.1) (maxL := T'.2.2.1) (ret := T'.2.2.2.1) (ws' := s_WL) na C.2.2.2.2.2.1 (s_good (s_inO cm hl hsm hx9 hi hse)) (by rw [s_hd_of hh]) rfl rfl h0 hdx hR) hpv rfl (by rw [List.length_map]; exact hna) S.2.2.2.2.2.2.2.2.1 (by rw [hst]; simp [s_rv]) (lv_room (s_cats hc)) hd ⟨Nat.le_trans (Nat.add_le_add_left hmc _) (Nat.le_trans S.2.2.2.2.2.2.1 C.2.2.2.2.2.2.2.2.2.2.2.2.2.1.2.2.1), Nat.le_trans (Nat.add_le_add_left hms _) (Nat.le_trans S.2.2.2.2.2.2.2.1 C.2.2.2.2.2.2.2.2.2.2.2.2.2.1.2.2.2)⟩⟩
theorem g_callSUg {T : s_T} {Φ : s_P} {pc : Nat} {lv : s_V} {st : List Value} {h : s_H} {n kc ks : Nat} {T' : s_T} {as rest : List Value} {b : Nat} {Ψ : s_P} {mc' ms' idx na : Nat} (M : s_Mt T' mc' ms' (.ref b :: as) h n Ψ) (hd : decode T.2.1 pc = .ok (.invokespecial idx, 3)) (cm : s_cm T' na) (hh : T'.2.2.2.2.1 = []) (hl : Cond.methodLink T.1.cls idx T'.1 ∈ s_WL) (hsm : Cond.sameMethod T'.1.cls T'.1.cls T'.1.name T'.1.desc ∈ s_WL) (hsup : Cond.superclass T.1.cls T'.1.cls ∈ s_WL) (hi : Cond.instanceMethod T'.1 ∈ s_WL) (hno : T'.1.name ≠ "<init>") (hdep : T'.2.2.2.2.2 + 1 ≤ T.2.2.2.2.2) (hb : b < n) {fs : List Value} (hob : h b = .inr (8, fs)) (hst : st = as.reverse ++ .ref b :: rest) (hna : as.length = na) (hc : (rest.map fun v => v.category).sum ≤ 8) (hmc : mc' ≤ kc) (hms : ms' ≤ ks) (hx : ∀ E h' n', ¬ Ψ (.inr E) h' n') (hlv : ∀ i v, lv i = some v → s_vo n v) (hrs : ∀ v ∈ rest, s_vo n v)
    (kk : ∀ v h' n', Ψ (.inl v) h' n' → n ≤ n' → s_G T Φ (pc + 3) lv (v.toList ++ rest) h' n' (kc - mc') (ks - ms')) : s_G T Φ pc lv st h n kc ks := by
  refine g_callN (rest := rest) hmc hms hx hlv hrs ?_ kk
  intro p l e R s m args below meth c X ad0 n0 A mc ms Qm C ad H locs cells slots ls S
  have hM := M l C.2.2.2.2.2.2.2.2.1 X ad H.size
  have hR := s_room (mc' := mc') (ms' := ms') C.2.2.2.2.2.2.2.2.2.2.2.2.2.1 hdep cm.2.2.1
  have hat := s_ws_at (dA := X.2) (ad := ad) (h := h) hb
  rw [hob] at hat
  have hrc := va_recv (fs := fs.map (s_rv ad)) C.2.2.2.2.2.2.2.2.2.2.1 S.2.2.2.1 (ci := 8) (q := (RJ4, TJ4, 4)) rfl hat
  have hpv : PreV s H RJ4 (ad b) (va_Pc ((.ref b :: as).map (s_rv ad)) (fun U => U.heap.size = H.size ∧ s_PC X ad n h U)) (as.map (s_rv ad)) := ⟨(s_pre C S (.ref b :: as)).1, hrc, (s_pre C S (.ref b :: as)).2⟩
  exact ⟨_, vx_runSU (C.2.2.2.2.2.2.2.2.2.2.1.1 8 (RJ4, TJ4, 4) rfl).2 ⟨C.1, C.2.1, C.2.2.1, C.2.2.2.2.1, C.2.2.2.2.2.1⟩ hM (va_cwSU (bytes := T'.2.1) (maxL := T'.2.2.1) (ret := T'.2.2.2.1) (ws' := s_WL) na C.2.2.2.2.2.1 (s_good (s_inSU cm hl hsm hsup hi)) (by rw [s_hd_of hh]) rfl rfl ⟨hno, cm.2.1.2.2⟩ hR) hpv rfl (by rw [List.length_map]; exact hna) S.2.2.2.2.2.2.2.2.1 (by rw [hst]; simp [s_rv]) (lv_room (s_cats hc)) hd ⟨Nat.le_trans (Nat.add_le_add_left hmc _) (Nat.le_trans S.2.2.2.2.2.2.1 C.2.2.2.2.2.2.2.2.2.2.2.2.2.1.2.2.1), Nat.le_trans (Nat.add_le_add_left hms _) (Nat.le_trans S.2.2.2.2.2.2.2.1 C.2.2.2.2.2.2.2.2.2.2.2.2.2.1.2.2.2)⟩⟩
theorem nJ5_ensureCapacityInternal_d00df : Cond.sameMethod yJ5_ensureCapacityInternal_d00df.cls yJ5_ensureCapacityInternal_d00df.cls yJ5_ensureCapacityInternal_d00df.name yJ5_ensureCapacityInternal_d00df.desc ∈ s_WL := s_WL_of 1133 (by decide +kernel) rfl
theorem nJ5_newCapacity_0f7a4 : Cond.sameMethod yJ5_newCapacity_0f7a4.cls yJ5_newCapacity_0f7a4.cls yJ5_newCapacity_0f7a4.name yJ5_newCapacity_0f7a4.desc ∈ s_WL := s_WL_of 1134 (by decide +kernel) rfl
theorem nJ5_putStringAt_47b60 : Cond.sameMethod yJ5_putStringAt_47b60.cls yJ5_putStringAt_47b60.cls yJ5_putStringAt_47b60.name yJ5_putStringAt_47b60.desc ∈ s_WL := s_WL_of 1135 (by decide +kernel) rfl
theorem nJ5_inflateIfNeededFor_a7421 : Cond.sameMethod yJ5_inflateIfNeededFor_a7421.cls yJ5_inflateIfNeededFor_a7421.cls yJ5_inflateIfNeededFor_a7421.name yJ5_inflateIfNeededFor_a7421.desc ∈ s_WL := s_WL_of 1136 (by decide +kernel) rfl
theorem nJ5_isLatin1_aae02 : Cond.sameMethod yJ5_isLatin1_aae02.cls yJ5_isLatin1_aae02.cls yJ5_isLatin1_aae02.name yJ5_isLatin1_aae02.desc ∈ s_WL := s_WL_of 341 (by decide +kernel) rfl
theorem nJ5_getValue_6d5f1 : Cond.sameMethod yJ5_getValue_6d5f1.cls yJ5_getValue_6d5f1.cls yJ5_getValue_6d5f1.name yJ5_getValue_6d5f1.desc ∈ s_WL := s_WL_of 460 (by decide +kernel) rfl
theorem nJ5_length_8abf5 : Cond.sameMethod yJ5_length_8abf5.cls yJ5_length_8abf5.cls yJ5_length_8abf5.name yJ5_length_8abf5.desc ∈ s_WL := s_WL_of 465 (by decide +kernel) rfl
theorem nJ5_append_cf1ce : Cond.sameMethod yJ5_append_cf1ce.cls yJ5_append_cf1ce.cls yJ5_append_cf1ce.name yJ5_append_cf1ce.desc ∈ s_WL := s_WL_of 1131 (by decide +kernel) rfl
theorem nJ5_append_c97b9 : Cond.sameMethod yJ5_append_c97b9.cls yJ5_append_c97b9.cls yJ5_append_c97b9.name yJ5_append_c97b9.desc ∈ s_WL := s_WL_of 1138 (by decide +kernel) rfl
theorem qJ5_ensureCapacityInternal_d00df : Cond.selects RJ4 yJ5_ensureCapacityInternal_d00df yJ5_ensureCapacityInternal_d00df ∈ s_WL := s_WL_pv 0 rfl rfl
theorem qJ5_newCapacity_0f7a4 : Cond.selects RJ4 yJ5_newCapacity_0f7a4 yJ5_newCapacity_0f7a4 ∈ s_WL := s_WL_pv 1 rfl rfl
theorem qJ5_putStringAt_47b60 : Cond.selects RJ4 yJ5_putStringAt_47b60 yJ5_putStringAt_47b60 ∈ s_WL := s_WL_pv 2 rfl rfl
theorem qJ5_inflateIfNeededFor_a7421 : Cond.selects RJ4 yJ5_inflateIfNeededFor_a7421 yJ5_inflateIfNeededFor_a7421 ∈ s_WL := s_WL_pv 3 rfl rfl
theorem qJ5_isLatin1_aae02 : Cond.selects RJ4 yJ5_isLatin1_aae02 yJ5_isLatin1_aae02 ∈ s_WL := s_WL_of 342 (by decide +kernel) rfl
theorem qJ5_getValue_6d5f1 : Cond.selects RJ4 yJ5_getValue_6d5f1 yJ5_getValue_6d5f1 ∈ s_WL := s_WL_of 461 (by decide +kernel) rfl
theorem qJ5_length : Cond.selects RJ4 yJ5_length_8abf5 yJ4_length_8abf5 ∈ s_WL := s_WL_of 466 (by decide +kernel) rfl
theorem wsup4 : Cond.superclass RJ4 RJ5 ∈ s_WL := s_WL_of 291 (by decide +kernel) rfl
theorem wl_J5 : Cond.methodLink RJ5 3 Lib.objectInit ∈ s_WL := s_WL_of 269 (by decide +kernel) rfl
theorem wl_J0 : Cond.methodLink RJ0 1 Lib.objectInit ∈ s_WL := s_WL_of 457 (by decide +kernel) rfl
theorem kJ8_200 : Cond.constant RJ8 200 (2147483639) ∈ s_WL := s_WL_of 318 (by decide +kernel) rfl
theorem kJ5_39 : Cond.constant RJ5 39 (2147483647) ∈ s_WL := s_WL_of 322 (by decide +kernel) rfl
theorem kL_148 : Cond.constant RL 148 (2147483647) ∈ s_WL := s_WL_of 759 (by decide +kernel) rfl
theorem kL_290 : Cond.constant RL 290 (67108863) ∈ s_WL := s_WL_of 1130 (by decide +kernel) rfl
theorem kL_252 : Cond.constantLong RL 252 (31) ∈ s_WL := s_WL_of 1112 (by decide +kernel) rfl
theorem kL_257 : Cond.constantLong RL 257 (961) ∈ s_WL := s_WL_of 1117 (by decide +kernel) rfl
theorem wk_L_111 : Cond.classLink RL 111 RJ4 ∈ s_WL := s_WL_of 261 (by decide +kernel) rfl
theorem wk_J4_18 : Cond.classLink RJ4 18 RJ0 ∈ s_WL := s_WL_of 449 (by decide +kernel) rfl
theorem wk_L_20 : Cond.classLink RL 20 RX8 ∈ s_WL := s_WL_of 51 (by decide +kernel) rfl
theorem wn_J4 : Cond.instantiable RJ4 4 ∈ s_WL := s_WL_of 262 (by decide +kernel) rfl
theorem wn_J0 : Cond.instantiable RJ0 4 ∈ s_WL := s_WL_of 450 (by decide +kernel) rfl
theorem wn_8 : Cond.instantiable RX8 9 ∈ s_WL := s_WL_of 52 (by decide +kernel) rfl
theorem wz_J4 : Cond.initialized RJ4 ∈ s_WL := s_WL_of 42 (by decide +kernel) rfl
theorem wz_J0 : Cond.initialized RJ0 ∈ s_WL := s_WL_of 43 (by decide +kernel) rfl
theorem wz_8 : Cond.initialized RX8 ∈ s_WL := s_WL_of 25 (by decide +kernel) rfl
theorem zf_J4 : ∀ j, j < 4 → defaultValue (tyJ4 j) = vp_V [.null, .int 0, .int 0, .int 0] j := fun j hj => by
  have h : j = 0 ∨ j = 1 ∨ j = 2 ∨ j = 3 := by omega
  rcases h with rfl | rfl | rfl | rfl <;> rfl
theorem zv_J4 {n : Nat} : ∀ v ∈ ([.null, .int 0, .int 0, .int 0] : List Value), s_vo n v := fun v hv => by
  simp only [List.mem_cons, List.not_mem_nil, or_false] at hv
  rcases hv with rfl | rfl | rfl | rfl <;> trivial
theorem zf_J0 : ∀ j, j < 4 → defaultValue (tyJ0 j) = vp_V [.null, .int 0, .int 0, .int 0] j := fun j hj => by
  have h : j = 0 ∨ j = 1 ∨ j = 2 ∨ j = 3 := by omega
  rcases h with rfl | rfl | rfl | rfl <;> rfl
theorem zv_J0 {n : Nat} : ∀ v ∈ ([.null, .int 0, .int 0, .int 0] : List Value), s_vo n v := fun v hv => by
  simp only [List.mem_cons, List.not_mem_nil, or_false] at hv
  rcases hv with rfl | rfl | rfl | rfl <;> trivial
theorem zf_X8 : ∀ j, j < 9 → defaultValue (tyX8 j) = vp_V [.null, .null, .null, .int 0, .null, .null, .null, .null, .null] j := fun j hj => by
  have h : j = 0 ∨ j = 1 ∨ j = 2 ∨ j = 3 ∨ j = 4 ∨ j = 5 ∨ j = 6 ∨ j = 7 ∨ j = 8 := by omega
  rcases h with rfl | rfl | rfl | rfl | rfl | rfl | rfl | rfl | rfl <;> rfl
theorem zv_X8 {n : Nat} : ∀ v ∈ ([.null, .null, .null, .int 0, .null, .null, .null, .null, .null] : List Value), s_vo n v := fun v hv => by
  simp only [List.mem_cons, List.not_mem_nil, or_false] at hv
  rcases hv with rfl | rfl | rfl | rfl | rfl | rfl | rfl | rfl | rfl <;> trivial
theorem vx_ofWF {l : Launch} {y : MethodName} {ws ws' : List Cond} {rm : Room} {Pc : Array Value → State → Prop} {Qc : Array Value → State → Outcome → State → Prop} {XC : String → State → State → Prop} {mc ms : Nat} {free : Addr → Prop} {cc : ByteArray} {maxL : Nat} {ret : Option FieldType}
    (hy : plainFor y = true) (hw : ws = Cond.code y cc maxL ret :: ws')
    (body : ∀ p e s m args below meth c s₁, BodyLoose p l y (headSpec ws rm) cc maxL ret e s m args below meth c s₁ → c.maxLocals = maxL → (∀ x ∈ c.exceptionTable.toList, False) → Pc args s →
      W p l e (headSpec ws rm).room s m args below meth c s.heap [] 0 0 (vx_MQ below Qc XC args s mc ms free) (entryFrame m args maxL)) : vx_Met l y ws rm Pc Qc XC mc ms free := by
  refine MetFree.of_bodySF (code := cc) (maxLocals := maxL) (ret := ret) hy ?_ ?_
  · intro args s m h hn
    obtain ⟨meth, c, h1, h2, h3, h4, h5, h6, -, -⟩ := Cond.code_spec hn (atoms_spec (ws := ws) h _ (by rw [hw]; exact List.mem_cons_self))
    exact ⟨meth, c, h1, h2, h3, h4, h5, h6⟩
  · intro p e s m args below meth c s₁ B hml hP _
    have hh0 : s₁.heap = s.heap := by rw [B.state]; rfl
    have ht : ∀ x ∈ c.exceptionTable.toList, False := by
      obtain ⟨meth9, c9, h1, h2, -, -, -, -, h7, -⟩ := Cond.code_spec B.named (atoms_spec (ws := ws) B.pre _ (by rw [hw]; exact List.mem_cons_self))
      cases Option.some.inj (h1.symm.trans B.method)
      cases Option.some.inj (h2.symm.trans (Stand.of_body B).code)
      intro x hx
      rw [Array.isEmpty_iff.mp h7] at hx
      cases hx
    obtain ⟨t, a1, o, b1, b2, b3⟩ := body p e s m args below meth c s₁ B hml ht hP s₁ hh0 (Stand.of_body B)
    exact ⟨t, o, a1, b1, b2, b3⟩
theorem s_Mt_ofF {T : s_T} {mc ms : Nat} {as : List Value} {h : s_H} {n : Nat} {Φ : s_P} (hh : T.2.2.2.2.1 = []) (hpl : plainFor T.1 = true) (hl : (lg_sl as).length ≤ T.2.2.1) (k : s_G T Φ 0 (s_ent as) [] h n mc ms) : s_Mt T mc ms as h n Φ := by
  intro l htr X ad sz
  refine vx_ofWF (cc := T.2.1) (maxL := T.2.2.1) (ret := T.2.2.2.1) (ws' := s_WL) hpl (by simp only [s_hd, hh]) ?_
  intro p e s m args below meth c s₁ B hml htb hv
  obtain ⟨rfl, hsz, hn9, hP, hK, hD, hSP⟩ := hv
  subst hsz
  have hts := atoms_spec (ws := s_hd T :: s_WL) B.pre
  have htab : c.exceptionTable.toList = tableOf T.2.2.2.2.1 := by
    rw [hh]
    exact List.eq_nil_iff_forall_not_mem.mpr (fun x hx => htb x hx)
  rw [lg_entry_eq]
  exact k p l e _ s m _ below meth c X ad n (va_A (s_ws X.2 ad n h) s.heap.size) mc ms _
    ⟨B.exec, B.bytes, hml, B.returns, findClass_of_methodNamed B.named, fun w hw => hts w (List.mem_cons_of_mem _ hw), htab, B.notSynchronized, htr, fun q hq => Or.inr hq, hK, hSP, (name_of_methodNamed B.named B.method).1, ⟨Nat.le_refl _, Nat.le_refl _, Nat.le_refl _, Nat.le_refl _⟩, s_Er_of B.exec B.bytes B.returns B.notSynchronized, s_Et_of htab B.notSynchronized⟩
    ad s.heap [] 0 0 _ ⟨Nat.le_refl _, hn9, s_ag.rf, hP, hD.self, va_S.rf, by rw [Nat.zero_add]; exact Nat.le_refl _, by rw [Nat.zero_add]; exact Nat.le_refl _, s_ent_L hl⟩
